section
-- ===== PART A: goes FIRST, ahead of the names: the tables' words, and 'selects' of the private methods out of them =====
/-- a private method of a class that the tables say can be made, by its rows of tables_1 -/
def lw_okq (q : MethodName × Nat) : Prop := (q.1.cls ≠ "java/lang/invoke/MethodHandle" ∧ q.1.cls ≠ "java/lang/invoke/VarHandle") ∧ Cond.instantiable q.1.cls q.2 ∈ tables_1 ∧ Cond.privateMethod q.1 ∈ tables_1 ∧ Cond.instanceMethod q.1 ∈ tables_1
theorem lw_p0 : lw_okq (⟨"RelayPassages", "parcelOf", "(I)LRelayPassages$Parcel;"⟩, 5) := ⟨⟨by decide +kernel, by decide +kernel⟩, List.mem_of_getElem? (i := 14) (by decide +kernel), List.mem_of_getElem? (i := 93) (by decide +kernel), List.mem_of_getElem? (i := 94) (by decide +kernel)⟩
theorem lw_p1 : lw_okq (⟨"java/lang/Throwable", "fillInStackTrace", "(I)Ljava/lang/Throwable;"⟩, 6) := ⟨⟨by decide +kernel, by decide +kernel⟩, List.mem_of_getElem? (i := 214) (by decide +kernel), List.mem_of_getElem? (i := 212) (by decide +kernel), List.mem_of_getElem? (i := 213) (by decide +kernel)⟩
theorem lw_p2 : lw_okq (⟨"RelayPassages", "checkPair", "(II)V"⟩, 5) := ⟨⟨by decide +kernel, by decide +kernel⟩, List.mem_of_getElem? (i := 14) (by decide +kernel), List.mem_of_getElem? (i := 273) (by decide +kernel), List.mem_of_getElem? (i := 274) (by decide +kernel)⟩
theorem lw_p3 : lw_okq (⟨"RelayPassages", "checkBooking", "(III)V"⟩, 5) := ⟨⟨by decide +kernel, by decide +kernel⟩, List.mem_of_getElem? (i := 14) (by decide +kernel), List.mem_of_getElem? (i := 292) (by decide +kernel), List.mem_of_getElem? (i := 293) (by decide +kernel)⟩
theorem lw_p4 : lw_okq (⟨"RelayPassages$WayFinder", "markLeading", "(LRelayPassages$Network;III)V"⟩, 2) := ⟨⟨by decide +kernel, by decide +kernel⟩, List.mem_of_getElem? (i := 53) (by decide +kernel), List.mem_of_getElem? (i := 313) (by decide +kernel), List.mem_of_getElem? (i := 314) (by decide +kernel)⟩
theorem lw_p5 : lw_okq (⟨"RelayPassages$WayFinder", "walk", "(LRelayPassages$Network;III)V"⟩, 2) := ⟨⟨by decide +kernel, by decide +kernel⟩, List.mem_of_getElem? (i := 53) (by decide +kernel), List.mem_of_getElem? (i := 317) (by decide +kernel), List.mem_of_getElem? (i := 318) (by decide +kernel)⟩
theorem lw_p6 : lw_okq (⟨"RelayPassages", "giveJourney", "(LRelayPassages$Parcel;II)V"⟩, 5) := ⟨⟨by decide +kernel, by decide +kernel⟩, List.mem_of_getElem? (i := 14) (by decide +kernel), List.mem_of_getElem? (i := 350) (by decide +kernel), List.mem_of_getElem? (i := 351) (by decide +kernel)⟩
theorem lw_p7 : lw_okq (⟨"RelayPassages", "cutOff", "(LRelayPassages$Parcel;)I"⟩, 5) := ⟨⟨by decide +kernel, by decide +kernel⟩, List.mem_of_getElem? (i := 14) (by decide +kernel), List.mem_of_getElem? (i := 395) (by decide +kernel), List.mem_of_getElem? (i := 396) (by decide +kernel)⟩
theorem lw_p8 : lw_okq (⟨"RelayPassages", "cutOffTouched", "(II)J"⟩, 5) := ⟨⟨by decide +kernel, by decide +kernel⟩, List.mem_of_getElem? (i := 14) (by decide +kernel), List.mem_of_getElem? (i := 417) (by decide +kernel), List.mem_of_getElem? (i := 418) (by decide +kernel)⟩
theorem lw_p9 : lw_okq (⟨"RelayPassages", "bookAnew", "(LRelayPassages$Parcel;)Z"⟩, 5) := ⟨⟨by decide +kernel, by decide +kernel⟩, List.mem_of_getElem? (i := 14) (by decide +kernel), List.mem_of_getElem? (i := 426) (by decide +kernel), List.mem_of_getElem? (i := 427) (by decide +kernel)⟩
theorem lw_p10 : lw_okq (⟨"RelayPassagesModel", "noPair", "(II)Z"⟩, 15) := ⟨⟨by decide +kernel, by decide +kernel⟩, List.mem_of_getElem? (i := 438) (by decide +kernel), List.mem_of_getElem? (i := 503) (by decide +kernel), List.mem_of_getElem? (i := 504) (by decide +kernel)⟩
theorem lw_p11 : lw_okq (⟨"RelayPassagesModel", "noNode", "(I)Z"⟩, 15) := ⟨⟨by decide +kernel, by decide +kernel⟩, List.mem_of_getElem? (i := 438) (by decide +kernel), List.mem_of_getElem? (i := 507) (by decide +kernel), List.mem_of_getElem? (i := 508) (by decide +kernel)⟩
theorem lw_p12 : lw_okq (⟨"RelayPassagesModel", "isOpen", "(III)Z"⟩, 15) := ⟨⟨by decide +kernel, by decide +kernel⟩, List.mem_of_getElem? (i := 438) (by decide +kernel), List.mem_of_getElem? (i := 511) (by decide +kernel), List.mem_of_getElem? (i := 512) (by decide +kernel)⟩
theorem lw_p13 : lw_okq (⟨"RelayPassagesModel", "set", "(IIIZ)V"⟩, 15) := ⟨⟨by decide +kernel, by decide +kernel⟩, List.mem_of_getElem? (i := 438) (by decide +kernel), List.mem_of_getElem? (i := 515) (by decide +kernel), List.mem_of_getElem? (i := 516) (by decide +kernel)⟩
theorem lw_p14 : lw_okq (⟨"RelayPassagesModel", "lacks", "(III)I"⟩, 15) := ⟨⟨by decide +kernel, by decide +kernel⟩, List.mem_of_getElem? (i := 438) (by decide +kernel), List.mem_of_getElem? (i := 527) (by decide +kernel), List.mem_of_getElem? (i := 528) (by decide +kernel)⟩
theorem lw_p15 : lw_okq (⟨"RelayPassagesModel", "best", "(III)I"⟩, 15) := ⟨⟨by decide +kernel, by decide +kernel⟩, List.mem_of_getElem? (i := 438) (by decide +kernel), List.mem_of_getElem? (i := 531) (by decide +kernel), List.mem_of_getElem? (i := 532) (by decide +kernel)⟩
def lw_privs_1 : List (MethodName × Nat) := [(⟨"RelayPassages", "parcelOf", "(I)LRelayPassages$Parcel;"⟩, 5), (⟨"java/lang/Throwable", "fillInStackTrace", "(I)Ljava/lang/Throwable;"⟩, 6), (⟨"RelayPassages", "checkPair", "(II)V"⟩, 5), (⟨"RelayPassages", "checkBooking", "(III)V"⟩, 5), (⟨"RelayPassages$WayFinder", "markLeading", "(LRelayPassages$Network;III)V"⟩, 2), (⟨"RelayPassages$WayFinder", "walk", "(LRelayPassages$Network;III)V"⟩, 2), (⟨"RelayPassages", "giveJourney", "(LRelayPassages$Parcel;II)V"⟩, 5), (⟨"RelayPassages", "cutOff", "(LRelayPassages$Parcel;)I"⟩, 5), (⟨"RelayPassages", "cutOffTouched", "(II)J"⟩, 5), (⟨"RelayPassages", "bookAnew", "(LRelayPassages$Parcel;)Z"⟩, 5), (⟨"RelayPassagesModel", "noPair", "(II)Z"⟩, 15), (⟨"RelayPassagesModel", "noNode", "(I)Z"⟩, 15), (⟨"RelayPassagesModel", "isOpen", "(III)Z"⟩, 15), (⟨"RelayPassagesModel", "set", "(IIIZ)V"⟩, 15), (⟨"RelayPassagesModel", "lacks", "(III)I"⟩, 15), (⟨"RelayPassagesModel", "best", "(III)I"⟩, 15)]
theorem lw_r1 : ∀ q ∈ lw_privs_1, lw_okq q := List.forall_mem_cons.mpr ⟨lw_p0, List.forall_mem_cons.mpr ⟨lw_p1, List.forall_mem_cons.mpr ⟨lw_p2, List.forall_mem_cons.mpr ⟨lw_p3, List.forall_mem_cons.mpr ⟨lw_p4, List.forall_mem_cons.mpr ⟨lw_p5, List.forall_mem_cons.mpr ⟨lw_p6, List.forall_mem_cons.mpr ⟨lw_p7, List.forall_mem_cons.mpr ⟨lw_p8, List.forall_mem_cons.mpr ⟨lw_p9, List.forall_mem_cons.mpr ⟨lw_p10, List.forall_mem_cons.mpr ⟨lw_p11, List.forall_mem_cons.mpr ⟨lw_p12, List.forall_mem_cons.mpr ⟨lw_p13, List.forall_mem_cons.mpr ⟨lw_p14, List.forall_mem_cons.mpr ⟨lw_p15, fun _ h => absurd h List.not_mem_nil⟩⟩⟩⟩⟩⟩⟩⟩⟩⟩⟩⟩⟩⟩⟩⟩
theorem lw_p16 : lw_okq (⟨"RelayPassagesModel", "lookBack", "(II)V"⟩, 15) := ⟨⟨by decide +kernel, by decide +kernel⟩, List.mem_of_getElem? (i := 438) (by decide +kernel), List.mem_of_getElem? (i := 535) (by decide +kernel), List.mem_of_getElem? (i := 536) (by decide +kernel)⟩
theorem lw_p17 : lw_okq (⟨"RelayPassagesModel", "isFree", "(III)Z"⟩, 15) := ⟨⟨by decide +kernel, by decide +kernel⟩, List.mem_of_getElem? (i := 438) (by decide +kernel), List.mem_of_getElem? (i := 539) (by decide +kernel), List.mem_of_getElem? (i := 540) (by decide +kernel)⟩
theorem lw_p18 : lw_okq (⟨"RelayPassagesModel", "used", "(III)I"⟩, 15) := ⟨⟨by decide +kernel, by decide +kernel⟩, List.mem_of_getElem? (i := 438) (by decide +kernel), List.mem_of_getElem? (i := 543) (by decide +kernel), List.mem_of_getElem? (i := 544) (by decide +kernel)⟩
theorem lw_p19 : lw_okq (⟨"RelayPassagesModel", "goes", "(IIII)Z"⟩, 15) := ⟨⟨by decide +kernel, by decide +kernel⟩, List.mem_of_getElem? (i := 438) (by decide +kernel), List.mem_of_getElem? (i := 547) (by decide +kernel), List.mem_of_getElem? (i := 548) (by decide +kernel)⟩
theorem lw_p20 : lw_okq (⟨"RelayPassagesModel", "lay", "(III)V"⟩, 15) := ⟨⟨by decide +kernel, by decide +kernel⟩, List.mem_of_getElem? (i := 438) (by decide +kernel), List.mem_of_getElem? (i := 551) (by decide +kernel), List.mem_of_getElem? (i := 552) (by decide +kernel)⟩
theorem lw_p21 : lw_okq (⟨"RelayPassagesModel", "noParcel", "(I)Z"⟩, 15) := ⟨⟨by decide +kernel, by decide +kernel⟩, List.mem_of_getElem? (i := 438) (by decide +kernel), List.mem_of_getElem? (i := 563) (by decide +kernel), List.mem_of_getElem? (i := 564) (by decide +kernel)⟩
theorem lw_p22 : lw_okq (⟨"RelayPassagesModel", "isLive", "(I)Z"⟩, 15) := ⟨⟨by decide +kernel, by decide +kernel⟩, List.mem_of_getElem? (i := 438) (by decide +kernel), List.mem_of_getElem? (i := 567) (by decide +kernel), List.mem_of_getElem? (i := 568) (by decide +kernel)⟩
theorem lw_p23 : lw_okq (⟨"RelayPassagesModel", "cutOff", "(I)V"⟩, 15) := ⟨⟨by decide +kernel, by decide +kernel⟩, List.mem_of_getElem? (i := 438) (by decide +kernel), List.mem_of_getElem? (i := 571) (by decide +kernel), List.mem_of_getElem? (i := 572) (by decide +kernel)⟩
def lw_privs_2 : List (MethodName × Nat) := [(⟨"RelayPassagesModel", "lookBack", "(II)V"⟩, 15), (⟨"RelayPassagesModel", "isFree", "(III)Z"⟩, 15), (⟨"RelayPassagesModel", "used", "(III)I"⟩, 15), (⟨"RelayPassagesModel", "goes", "(IIII)Z"⟩, 15), (⟨"RelayPassagesModel", "lay", "(III)V"⟩, 15), (⟨"RelayPassagesModel", "noParcel", "(I)Z"⟩, 15), (⟨"RelayPassagesModel", "isLive", "(I)Z"⟩, 15), (⟨"RelayPassagesModel", "cutOff", "(I)V"⟩, 15)]
theorem lw_r2 : ∀ q ∈ lw_privs_2, lw_okq q := List.forall_mem_cons.mpr ⟨lw_p16, List.forall_mem_cons.mpr ⟨lw_p17, List.forall_mem_cons.mpr ⟨lw_p18, List.forall_mem_cons.mpr ⟨lw_p19, List.forall_mem_cons.mpr ⟨lw_p20, List.forall_mem_cons.mpr ⟨lw_p21, List.forall_mem_cons.mpr ⟨lw_p22, List.forall_mem_cons.mpr ⟨lw_p23, fun _ h => absurd h List.not_mem_nil⟩⟩⟩⟩⟩⟩⟩⟩
def lw_privs : List (MethodName × Nat) := lw_privs_1 ++ (lw_privs_2)
def lw_tbl : List Cond := k2_sels lw_privs ++ tables_1
theorem lw_privs_ok : ∀ q ∈ lw_privs, lw_okq q := by
  show ∀ q ∈ lw_privs_1 ++ (lw_privs_2), lw_okq q
  exact List.forall_mem_append.mpr ⟨lw_r1, lw_r2⟩
-- ===== end of PART A; then your names; then what follows =====
end
section
/-! The program as tables: printed by wip/gen/tables.py out of javap's listing. Methods by number; classes of objects by number. -/
def TC0 : u_T := fun k => match k with
  | 0 => ("RelayPassages$Network", "nodes", "I", false)
  | 1 => ("RelayPassages$Network", "contacts", "I", false)
  | 2 => ("RelayPassages$Network", "made", "I", false)
  | 3 => ("RelayPassages$Network", "places", "[I", true)
  | 4 => ("RelayPassages$Network", "openTo", "[I", true)
  | 5 => ("RelayPassages$Network", "usedTo", "[I", true)
  | _ => ("RelayPassages$Network", "storedAt", "[I", true)
def TC1 : u_T := fun k => match k with
  | 0 => ("RelayPassages$Parcel", "goal", "I", true)
  | 1 => ("RelayPassages$Parcel", "at", "I", true)
  | 2 => ("RelayPassages$Parcel", "nodes", "[I", true)
  | 3 => ("RelayPassages$Parcel", "last", "I", false)
  | _ => ("RelayPassages$Parcel", "fate", "I", false)
def TC2 : u_T := fun k => match k with
  | 0 => ("RelayPassages$WayFinder", "way", "[I", true)
  | _ => ("RelayPassages$WayFinder", "leading", "[I", true)
def TC3 : u_T := fun k => match k with
  | 0 => ("RelayPassages", "network", "LRelayPassages$Network;", true)
  | 1 => ("RelayPassages", "finder", "LRelayPassages$WayFinder;", true)
  | 2 => ("RelayPassages", "parcels", "[LRelayPassages$Parcel;", true)
  | 3 => ("RelayPassages", "given", "I", false)
  | _ => ("RelayPassages", "now", "I", false)
def TC4 : u_T := fun k => match k with
  | 0 => ("RelayPassagesModel", "thrown", "I", false)
  | 1 => ("RelayPassagesModel", "time", "I", false)
  | 2 => ("RelayPassagesModel", "contacts", "I", false)
  | 3 => ("RelayPassagesModel", "places", "[I", true)
  | 4 => ("RelayPassagesModel", "opens", "[Z", true)
  | 5 => ("RelayPassagesModel", "parcels", "I", false)
  | 6 => ("RelayPassagesModel", "goals", "[I", true)
  | 7 => ("RelayPassagesModel", "sources", "[I", true)
  | 8 => ("RelayPassagesModel", "starts", "[I", true)
  | 9 => ("RelayPassagesModel", "ends", "[I", true)
  | 10 => ("RelayPassagesModel", "firsts", "[I", true)
  | 11 => ("RelayPassagesModel", "lasts", "[I", true)
  | 12 => ("RelayPassagesModel", "nodes", "[I", true)
  | 13 => ("RelayPassagesModel", "touched", "[Z", true)
  | _ => ("RelayPassagesModel", "early", "[I", true)
abbrev vwCl : List vw_C := [("RelayPassages$Network", TC0, 7), ("RelayPassages$Parcel", TC1, 5), ("RelayPassages$WayFinder", TC2, 2), ("RelayPassages", TC3, 5), ("RelayPassagesModel", TC4, 15)]
def m_ty (ci j : Nat) : FieldType := match ci with
  | 0 => (match j with | 0 => .int | 1 => .int | 2 => .int | 3 => .array .int | 4 => .array .int | 5 => .array .int | _ => .array .int)
  | 1 => (match j with | 0 => .int | 1 => .int | 2 => .array .int | 3 => .int | _ => .int)
  | 2 => (match j with | 0 => .array .int | _ => .array .int)
  | 3 => (match j with | 0 => .object "RelayPassages$Network" | 1 => .object "RelayPassages$WayFinder" | 2 => .array (.object "RelayPassages$Parcel") | 3 => .int | _ => .int)
  | _ => (match j with | 0 => .int | 1 => .int | 2 => .int | 3 => .array .int | 4 => .array .boolean | 5 => .int | 6 => .array .int | 7 => .array .int | 8 => .array .int | 9 => .array .int | 10 => .array .int | 11 => .array .int | 12 => .array .int | 13 => .array .boolean | _ => .array .int)
def m_zero (ci : Nat) : Nat × List Value := match ci with
  | 0 => (7, [.int 0, .int 0, .int 0, .null, .null, .null, .null])
  | 1 => (5, [.int 0, .int 0, .null, .int 0, .int 0])
  | 2 => (2, [.null, .null])
  | 3 => (5, [.null, .null, .null, .int 0, .int 0])
  | _ => (15, [.int 0, .int 0, .int 0, .null, .null, .int 0, .null, .null, .null, .null, .null, .null, .null, .null, .null])
def m_cname (ci : Nat) : String := match ci with
  | 0 => "RelayPassages$Network"
  | 1 => "RelayPassages$Parcel"
  | 2 => "RelayPassages$WayFinder"
  | 3 => "RelayPassages"
  | _ => "RelayPassagesModel"
def m_parcel : String := "RelayPassages$Parcel"
def m_host : String := "RelayPassages"
def m_exc (q : Nat) : String := match q with
  | 0 => "java/lang/IllegalArgumentException"
  | 1 => "java/lang/IllegalStateException"
  | _ => "java/util/NoSuchElementException"
def m_up : List String := ["java/lang/RuntimeException", "java/lang/Exception"]
def m_y (k : Nat) : MethodName := match k with
  | 0 => ⟨"RelayPassages$Network", "<init>", "()V"⟩
  | 1 => ⟨"RelayPassages$Network", "cell", "(II)I"⟩
  | 2 => ⟨"RelayPassages$Network", "isNode", "(I)Z"⟩
  | 3 => ⟨"RelayPassages$Network", "isPair", "(II)Z"⟩
  | 4 => ⟨"RelayPassages$Network", "makeNode", "(II)V"⟩
  | 5 => ⟨"RelayPassages$Network", "isOpenWithin", "(IIII)Z"⟩
  | 6 => ⟨"RelayPassages$Network", "makeContact", "(IIII)V"⟩
  | 7 => ⟨"RelayPassages$Network", "closeFrom", "(III)V"⟩
  | 8 => ⟨"RelayPassages$Network", "usersOfLink", "(III)I"⟩
  | 9 => ⟨"RelayPassages$Network", "usersOfPlaces", "(II)I"⟩
  | 10 => ⟨"RelayPassages$Network", "placesLeft", "(II)I"⟩
  | 11 => ⟨"RelayPassages$Network", "onward", "(II)I"⟩
  | 12 => ⟨"RelayPassages$Network", "take", "(III)V"⟩
  | 13 => ⟨"RelayPassages$Network", "giveBack", "(III)V"⟩
  | 14 => ⟨"RelayPassages$Parcel", "<init>", "(II)V"⟩
  | 15 => ⟨"RelayPassages$Parcel", "stateAt", "(I)I"⟩
  | 16 => ⟨"RelayPassages$Parcel", "isUnderWay", "(I)Z"⟩
  | 17 => ⟨"RelayPassages$Parcel", "nodeFor", "(I)I"⟩
  | 18 => ⟨"RelayPassages$Parcel", "usesPairFrom", "(III)Z"⟩
  | 19 => ⟨"RelayPassages$WayFinder", "<init>", "()V"⟩
  | 20 => ⟨"RelayPassages$WayFinder", "seek", "(LRelayPassages$Network;III)I"⟩
  | 21 => ⟨"RelayPassages$WayFinder", "soonestEnd", "(LRelayPassages$Network;III)I"⟩
  | 22 => ⟨"RelayPassages$WayFinder", "onwardOfAll", "(LRelayPassages$Network;II)I"⟩
  | 23 => ⟨"RelayPassages$WayFinder", "markLeading", "(LRelayPassages$Network;III)V"⟩
  | 24 => ⟨"RelayPassages$WayFinder", "walk", "(LRelayPassages$Network;III)V"⟩
  | 25 => ⟨"RelayPassages$WayFinder", "leastOf", "(I)I"⟩
  | 26 => ⟨"RelayPassages", "<init>", "()V"⟩
  | 27 => ⟨"RelayPassages", "node", "(II)I"⟩
  | 28 => ⟨"RelayPassages", "contact", "(IIII)I"⟩
  | 29 => ⟨"RelayPassages", "now", "()I"⟩
  | 30 => ⟨"RelayPassages", "book", "(III)I"⟩
  | 31 => ⟨"RelayPassages", "whatIf", "(III)I"⟩
  | 32 => ⟨"RelayPassages", "cancel", "(I)I"⟩
  | 33 => ⟨"RelayPassages", "cut", "(II)I"⟩
  | 34 => ⟨"RelayPassages", "tick", "()I"⟩
  | 35 => ⟨"RelayPassages", "state", "(I)I"⟩
  | 36 => ⟨"RelayPassages", "where", "(I)I"⟩
  | 37 => ⟨"RelayPassages", "arrival", "(I)I"⟩
  | 38 => ⟨"RelayPassages", "step", "(II)I"⟩
  | 39 => ⟨"RelayPassages", "linkUsed", "(III)I"⟩
  | 40 => ⟨"RelayPassages", "stored", "(II)I"⟩
  | 41 => ⟨"RelayPassages", "open", "(III)Z"⟩
  | 42 => ⟨"RelayPassages", "free", "(II)I"⟩
  | 43 => ⟨"RelayPassages", "isTick", "(I)Z"⟩
  | 44 => ⟨"RelayPassages", "isInSet", "(II)Z"⟩
  | 45 => ⟨"RelayPassages", "parcelOf", "(I)LRelayPassages$Parcel;"⟩
  | 46 => ⟨"RelayPassages", "checkPair", "(II)V"⟩
  | 47 => ⟨"RelayPassages", "checkBooking", "(III)V"⟩
  | 48 => ⟨"RelayPassages", "giveJourney", "(LRelayPassages$Parcel;II)V"⟩
  | 49 => ⟨"RelayPassages", "cutOff", "(LRelayPassages$Parcel;)I"⟩
  | 50 => ⟨"RelayPassages", "cutOffTouched", "(II)J"⟩
  | 51 => ⟨"RelayPassages", "bookAnew", "(LRelayPassages$Parcel;)Z"⟩
  | 52 => ⟨"RelayPassagesModel", "<init>", "()V"⟩
  | 53 => ⟨"RelayPassagesModel", "thrown", "()I"⟩
  | 54 => ⟨"RelayPassagesModel", "noNode", "(I)Z"⟩
  | 55 => ⟨"RelayPassagesModel", "noPair", "(II)Z"⟩
  | 56 => ⟨"RelayPassagesModel", "noTick", "(I)Z"⟩
  | 57 => ⟨"RelayPassagesModel", "isOpen", "(III)Z"⟩
  | 58 => ⟨"RelayPassagesModel", "set", "(IIIZ)V"⟩
  | 59 => ⟨"RelayPassagesModel", "goes", "(IIII)Z"⟩
  | 60 => ⟨"RelayPassagesModel", "used", "(III)I"⟩
  | 61 => ⟨"RelayPassagesModel", "isFree", "(III)Z"⟩
  | 62 => ⟨"RelayPassagesModel", "lookBack", "(II)V"⟩
  | 63 => ⟨"RelayPassagesModel", "best", "(III)I"⟩
  | 64 => ⟨"RelayPassagesModel", "lay", "(III)V"⟩
  | 65 => ⟨"RelayPassagesModel", "node", "(II)I"⟩
  | 66 => ⟨"RelayPassagesModel", "contact", "(IIII)I"⟩
  | 67 => ⟨"RelayPassagesModel", "now", "()I"⟩
  | 68 => ⟨"RelayPassagesModel", "lacks", "(III)I"⟩
  | 69 => ⟨"RelayPassagesModel", "book", "(III)I"⟩
  | 70 => ⟨"RelayPassagesModel", "whatIf", "(III)I"⟩
  | 71 => ⟨"RelayPassagesModel", "noParcel", "(I)Z"⟩
  | 72 => ⟨"RelayPassagesModel", "isLive", "(I)Z"⟩
  | 73 => ⟨"RelayPassagesModel", "cutOff", "(I)V"⟩
  | 74 => ⟨"RelayPassagesModel", "cancel", "(I)I"⟩
  | 75 => ⟨"RelayPassagesModel", "cut", "(II)I"⟩
  | 76 => ⟨"RelayPassagesModel", "tick", "()I"⟩
  | 77 => ⟨"RelayPassagesModel", "state", "(I)I"⟩
  | 78 => ⟨"RelayPassagesModel", "where", "(I)I"⟩
  | 79 => ⟨"RelayPassagesModel", "arrival", "(I)I"⟩
  | 80 => ⟨"RelayPassagesModel", "step", "(II)I"⟩
  | 81 => ⟨"RelayPassagesModel", "linkUsed", "(III)I"⟩
  | 82 => ⟨"RelayPassagesModel", "stored", "(II)I"⟩
  | 83 => ⟨"RelayPassagesModel", "open", "(III)Z"⟩
  | 84 => ⟨"RelayPassagesModel", "free", "(II)I"⟩
  | 85 => ⟨"RelayPassagesLaw", "node", "(LRelayPassages;II[J)I"⟩
  | 86 => ⟨"RelayPassagesLaw", "contact", "(LRelayPassages;IIII[J)I"⟩
  | 87 => ⟨"RelayPassagesLaw", "book", "(LRelayPassages;III[J)I"⟩
  | 88 => ⟨"RelayPassagesLaw", "whatIf", "(LRelayPassages;III[J)I"⟩
  | 89 => ⟨"RelayPassagesLaw", "cancel", "(LRelayPassages;I[J)I"⟩
  | 90 => ⟨"RelayPassagesLaw", "cut", "(LRelayPassages;II[J)I"⟩
  | 91 => ⟨"RelayPassagesLaw", "tick", "(LRelayPassages;[J)I"⟩
  | 92 => ⟨"RelayPassagesLaw", "law", "([I)Z"⟩
  | _ => ⟨"", "", ""⟩
def m_b (k : Nat) : ByteArray := match k with
  | 0 => prog_2_method_1_code
  | 1 => prog_2_method_2_code
  | 2 => prog_2_method_3_code
  | 3 => prog_2_method_4_code
  | 4 => prog_2_method_5_code
  | 5 => prog_2_method_6_code
  | 6 => prog_2_method_7_code
  | 7 => prog_2_method_8_code
  | 8 => prog_2_method_9_code
  | 9 => prog_2_method_10_code
  | 10 => prog_2_method_11_code
  | 11 => prog_2_method_12_code
  | 12 => prog_2_method_13_code
  | 13 => prog_2_method_14_code
  | 14 => prog_3_method_1_code
  | 15 => prog_3_method_2_code
  | 16 => prog_3_method_3_code
  | 17 => prog_3_method_4_code
  | 18 => prog_3_method_5_code
  | 19 => prog_4_method_1_code
  | 20 => prog_4_method_2_code
  | 21 => prog_4_method_3_code
  | 22 => prog_4_method_4_code
  | 23 => prog_4_method_5_code
  | 24 => prog_4_method_6_code
  | 25 => prog_4_method_7_code
  | 26 => prog_1_method_1_code
  | 27 => prog_1_method_2_code
  | 28 => prog_1_method_3_code
  | 29 => prog_1_method_4_code
  | 30 => prog_1_method_5_code
  | 31 => prog_1_method_6_code
  | 32 => prog_1_method_7_code
  | 33 => prog_1_method_8_code
  | 34 => prog_1_method_9_code
  | 35 => prog_1_method_10_code
  | 36 => prog_1_method_11_code
  | 37 => prog_1_method_12_code
  | 38 => prog_1_method_13_code
  | 39 => prog_1_method_14_code
  | 40 => prog_1_method_15_code
  | 41 => prog_1_method_16_code
  | 42 => prog_1_method_17_code
  | 43 => prog_1_method_18_code
  | 44 => prog_1_method_19_code
  | 45 => prog_1_method_20_code
  | 46 => prog_1_method_21_code
  | 47 => prog_1_method_22_code
  | 48 => prog_1_method_23_code
  | 49 => prog_1_method_24_code
  | 50 => prog_1_method_25_code
  | 51 => prog_1_method_26_code
  | 52 => prog_6_method_1_code
  | 53 => prog_6_method_2_code
  | 54 => prog_6_method_3_code
  | 55 => prog_6_method_4_code
  | 56 => prog_6_method_5_code
  | 57 => prog_6_method_6_code
  | 58 => prog_6_method_7_code
  | 59 => prog_6_method_8_code
  | 60 => prog_6_method_9_code
  | 61 => prog_6_method_10_code
  | 62 => prog_6_method_11_code
  | 63 => prog_6_method_12_code
  | 64 => prog_6_method_13_code
  | 65 => prog_6_method_14_code
  | 66 => prog_6_method_15_code
  | 67 => prog_6_method_16_code
  | 68 => prog_6_method_17_code
  | 69 => prog_6_method_18_code
  | 70 => prog_6_method_19_code
  | 71 => prog_6_method_20_code
  | 72 => prog_6_method_21_code
  | 73 => prog_6_method_22_code
  | 74 => prog_6_method_23_code
  | 75 => prog_6_method_24_code
  | 76 => prog_6_method_25_code
  | 77 => prog_6_method_26_code
  | 78 => prog_6_method_27_code
  | 79 => prog_6_method_28_code
  | 80 => prog_6_method_29_code
  | 81 => prog_6_method_30_code
  | 82 => prog_6_method_31_code
  | 83 => prog_6_method_32_code
  | 84 => prog_6_method_33_code
  | 85 => method_3_code
  | 86 => method_4_code
  | 87 => method_5_code
  | 88 => method_6_code
  | 89 => method_7_code
  | 90 => method_8_code
  | 91 => method_9_code
  | 92 => code
  | _ => code
def m_n (k : Nat) : Nat := match k with
  | 0 => 1
  | 1 => 2
  | 2 => 2
  | 3 => 3
  | 4 => 3
  | 5 => 6
  | 6 => 6
  | 7 => 5
  | 8 => 4
  | 9 => 3
  | 10 => 3
  | 11 => 5
  | 12 => 4
  | 13 => 4
  | 14 => 3
  | 15 => 2
  | 16 => 3
  | 17 => 2
  | 18 => 7
  | 19 => 1
  | 20 => 6
  | 21 => 6
  | 22 => 5
  | 23 => 8
  | 24 => 6
  | 25 => 2
  | 26 => 1
  | 27 => 3
  | 28 => 5
  | 29 => 1
  | 30 => 6
  | 31 => 4
  | 32 => 3
  | 33 => 8
  | 34 => 4
  | 35 => 3
  | 36 => 3
  | 37 => 3
  | 38 => 4
  | 39 => 4
  | 40 => 3
  | 41 => 4
  | 42 => 3
  | 43 => 1
  | 44 => 2
  | 45 => 2
  | 46 => 3
  | 47 => 4
  | 48 => 5
  | 49 => 5
  | 50 => 7
  | 51 => 4
  | 52 => 1
  | 53 => 1
  | 54 => 2
  | 55 => 3
  | 56 => 1
  | 57 => 4
  | 58 => 5
  | 59 => 5
  | 60 => 6
  | 61 => 4
  | 62 => 8
  | 63 => 5
  | 64 => 9
  | 65 => 5
  | 66 => 6
  | 67 => 1
  | 68 => 4
  | 69 => 5
  | 70 => 4
  | 71 => 2
  | 72 => 2
  | 73 => 2
  | 74 => 3
  | 75 => 8
  | 76 => 3
  | 77 => 2
  | 78 => 2
  | 79 => 2
  | 80 => 3
  | 81 => 4
  | 82 => 3
  | 83 => 4
  | 84 => 3
  | 85 => 5
  | 86 => 7
  | 87 => 6
  | 88 => 6
  | 89 => 4
  | 90 => 5
  | 91 => 3
  | 92 => 7
  | _ => 0
def m_r (k : Nat) : Option FieldType := match k with
  | 0 => none
  | 1 => (some .int)
  | 2 => (some .boolean)
  | 3 => (some .boolean)
  | 4 => none
  | 5 => (some .boolean)
  | 6 => none
  | 7 => none
  | 8 => (some .int)
  | 9 => (some .int)
  | 10 => (some .int)
  | 11 => (some .int)
  | 12 => none
  | 13 => none
  | 14 => none
  | 15 => (some .int)
  | 16 => (some .boolean)
  | 17 => (some .int)
  | 18 => (some .boolean)
  | 19 => none
  | 20 => (some .int)
  | 21 => (some .int)
  | 22 => (some .int)
  | 23 => none
  | 24 => none
  | 25 => (some .int)
  | 26 => none
  | 27 => (some .int)
  | 28 => (some .int)
  | 29 => (some .int)
  | 30 => (some .int)
  | 31 => (some .int)
  | 32 => (some .int)
  | 33 => (some .int)
  | 34 => (some .int)
  | 35 => (some .int)
  | 36 => (some .int)
  | 37 => (some .int)
  | 38 => (some .int)
  | 39 => (some .int)
  | 40 => (some .int)
  | 41 => (some .boolean)
  | 42 => (some .int)
  | 43 => (some .boolean)
  | 44 => (some .boolean)
  | 45 => (some (.object "RelayPassages$Parcel"))
  | 46 => none
  | 47 => none
  | 48 => none
  | 49 => (some .int)
  | 50 => (some .long)
  | 51 => (some .boolean)
  | 52 => none
  | 53 => (some .int)
  | 54 => (some .boolean)
  | 55 => (some .boolean)
  | 56 => (some .boolean)
  | 57 => (some .boolean)
  | 58 => none
  | 59 => (some .boolean)
  | 60 => (some .int)
  | 61 => (some .boolean)
  | 62 => none
  | 63 => (some .int)
  | 64 => none
  | 65 => (some .int)
  | 66 => (some .int)
  | 67 => (some .int)
  | 68 => (some .int)
  | 69 => (some .int)
  | 70 => (some .int)
  | 71 => (some .boolean)
  | 72 => (some .boolean)
  | 73 => none
  | 74 => (some .int)
  | 75 => (some .int)
  | 76 => (some .int)
  | 77 => (some .int)
  | 78 => (some .int)
  | 79 => (some .int)
  | 80 => (some .int)
  | 81 => (some .int)
  | 82 => (some .int)
  | 83 => (some .boolean)
  | 84 => (some .int)
  | 85 => (some .int)
  | 86 => (some .int)
  | 87 => (some .int)
  | 88 => (some .int)
  | 89 => (some .int)
  | 90 => (some .int)
  | 91 => (some .int)
  | 92 => (some .boolean)
  | _ => none
def m_ar (k : Nat) : Nat := match k with
  | 0 => 0
  | 1 => 2
  | 2 => 1
  | 3 => 2
  | 4 => 2
  | 5 => 4
  | 6 => 4
  | 7 => 3
  | 8 => 3
  | 9 => 2
  | 10 => 2
  | 11 => 2
  | 12 => 3
  | 13 => 3
  | 14 => 2
  | 15 => 1
  | 16 => 1
  | 17 => 1
  | 18 => 3
  | 19 => 0
  | 20 => 4
  | 21 => 4
  | 22 => 3
  | 23 => 4
  | 24 => 4
  | 25 => 1
  | 26 => 0
  | 27 => 2
  | 28 => 4
  | 29 => 0
  | 30 => 3
  | 31 => 3
  | 32 => 1
  | 33 => 2
  | 34 => 0
  | 35 => 1
  | 36 => 1
  | 37 => 1
  | 38 => 2
  | 39 => 3
  | 40 => 2
  | 41 => 3
  | 42 => 2
  | 43 => 1
  | 44 => 2
  | 45 => 1
  | 46 => 2
  | 47 => 3
  | 48 => 3
  | 49 => 1
  | 50 => 2
  | 51 => 1
  | 52 => 0
  | 53 => 0
  | 54 => 1
  | 55 => 2
  | 56 => 1
  | 57 => 3
  | 58 => 4
  | 59 => 4
  | 60 => 3
  | 61 => 3
  | 62 => 2
  | 63 => 3
  | 64 => 3
  | 65 => 2
  | 66 => 4
  | 67 => 0
  | 68 => 3
  | 69 => 3
  | 70 => 3
  | 71 => 1
  | 72 => 1
  | 73 => 1
  | 74 => 1
  | 75 => 2
  | 76 => 0
  | 77 => 1
  | 78 => 1
  | 79 => 1
  | 80 => 2
  | 81 => 3
  | 82 => 2
  | 83 => 3
  | 84 => 2
  | 85 => 4
  | 86 => 6
  | 87 => 5
  | 88 => 5
  | 89 => 3
  | 90 => 4
  | 91 => 2
  | 92 => 1
  | _ => 0
def m_h (k : Nat) : List (Nat × Nat × Nat × Nat) := match k with
  | 85 => [(0, 10, 13, 13), (0, 10, 17, 15)]
  | 86 => [(0, 14, 17, 13), (0, 14, 21, 15)]
  | 87 => [(0, 12, 15, 13), (0, 12, 19, 15)]
  | 88 => [(0, 12, 15, 13), (0, 12, 19, 15)]
  | 89 => [(0, 9, 12, 32), (0, 9, 15, 15)]
  | 90 => [(0, 10, 13, 13)]
  | 91 => [(0, 8, 11, 15)]
  | _ => []
def m_hx (k : Nat) : List Nat := match k with
  | 85 => [0, 1]
  | 86 => [0, 1]
  | 87 => [0, 1]
  | 88 => [0, 1]
  | 89 => [2, 1]
  | 90 => [0]
  | 91 => [1]
  | _ => []
def mt_0 : List (Nat × Instr × Nat × Nat) := [(0, .aload_n 0, 0, 0), (1, .invokespecial 3, 1000, 0), (4, .aload_n 0, 0, 0), (5, .bipush 8, 0, 0), (7, .newarray .int, 0, 0), (9, .putfield 9, 0, 3), (12, .aload_n 0, 0, 0), (13, .sipush 512, 0, 0), (16, .newarray .int, 0, 0), (18, .putfield 15, 0, 4), (21, .aload_n 0, 0, 0), (22, .sipush 512, 0, 0), (25, .newarray .int, 0, 0), (27, .putfield 18, 0, 5), (30, .aload_n 0, 0, 0), (31, .sipush 512, 0, 0), (34, .newarray .int, 0, 0), (36, .putfield 21, 0, 6), (39, .return_, 0, 0)]
def mt_1 : List (Nat × Instr × Nat × Nat) := [(0, .iload_n 1, 0, 0), (1, .bipush 8, 0, 0), (3, .imul, 0, 0), (4, .iload_n 0, 0, 0), (5, .iadd, 0, 0), (6, .ireturn, 0, 0)]
def mt_2 : List (Nat × Instr × Nat × Nat) := [(0, .iload_n 1, 0, 0), (1, .ifCond .lt 24, 25, 0), (4, .iload_n 1, 0, 0), (5, .bipush 8, 0, 0), (7, .if_icmp .ge 18, 25, 0), (10, .aload_n 0, 0, 0), (11, .getfield 24, 0, 2), (14, .iload_n 1, 0, 0), (15, .invokestatic 28, 44, 0), (18, .ifCond .eq 7, 25, 0), (21, .iconst 1, 0, 0), (22, .goto 4, 26, 0), (25, .iconst 0, 0, 0), (26, .ireturn, 0, 0)]
def mt_3 : List (Nat × Instr × Nat × Nat) := [(0, .aload_n 0, 0, 0), (1, .iload_n 1, 0, 0), (2, .invokevirtual 32, 2, 0), (5, .ifCond .eq 20, 25, 0), (8, .aload_n 0, 0, 0), (9, .iload_n 2, 0, 0), (10, .invokevirtual 32, 2, 0), (13, .ifCond .eq 12, 25, 0), (16, .iload_n 1, 0, 0), (17, .iload_n 2, 0, 0), (18, .if_icmp .eq 7, 25, 0), (21, .iconst 1, 0, 0), (22, .goto 4, 26, 0), (25, .iconst 0, 0, 0), (26, .ireturn, 0, 0)]
def mt_4 : List (Nat × Instr × Nat × Nat) := [(0, .aload_n 0, 0, 0), (1, .getfield 9, 0, 3), (4, .iload_n 1, 0, 0), (5, .iload_n 2, 0, 0), (6, .iastore, 0, 0), (7, .aload_n 0, 0, 0), (8, .dup, 0, 0), (9, .getfield 24, 0, 2), (12, .iconst 1, 0, 0), (13, .iload_n 1, 0, 0), (14, .ishl, 0, 0), (15, .ior, 0, 0), (16, .putfield 24, 0, 2), (19, .aload_n 0, 0, 0), (20, .dup, 0, 0), (21, .getfield 36, 0, 0), (24, .iconst 1, 0, 0), (25, .iadd, 0, 0), (26, .putfield 36, 0, 0), (29, .return_, 0, 0)]
def mt_5 : List (Nat × Instr × Nat × Nat) := [(0, .iload_n 3, 0, 0), (1, .istore 5, 0, 0), (3, .iload 5, 0, 0), (5, .iload 4, 0, 0), (7, .if_icmp .ge 29, 36, 0), (10, .aload_n 0, 0, 0), (11, .getfield 15, 0, 4), (14, .iload_n 1, 0, 0), (15, .iload 5, 0, 0), (17, .invokestatic 39, 1, 0), (20, .iaload, 0, 0), (21, .iload_n 2, 0, 0), (22, .invokestatic 28, 44, 0), (25, .ifCond .eq 5, 30, 0), (28, .iconst 1, 0, 0), (29, .ireturn, 0, 0), (30, .iinc 5 1, 0, 0), (33, .goto (-30), 3, 0), (36, .iconst 0, 0, 0), (37, .ireturn, 0, 0)]
def mt_6 : List (Nat × Instr × Nat × Nat) := [(0, .iload_n 3, 0, 0), (1, .istore 5, 0, 0), (3, .iload 5, 0, 0), (5, .iload 4, 0, 0), (7, .if_icmp .ge 43, 50, 0), (10, .aload_n 0, 0, 0), (11, .getfield 15, 0, 4), (14, .iload_n 1, 0, 0), (15, .iload 5, 0, 0), (17, .invokestatic 39, 1, 0), (20, .dup2, 0, 0), (21, .iaload, 0, 0), (22, .iconst 1, 0, 0), (23, .iload_n 2, 0, 0), (24, .ishl, 0, 0), (25, .ior, 0, 0), (26, .iastore, 0, 0), (27, .aload_n 0, 0, 0), (28, .getfield 15, 0, 4), (31, .iload_n 2, 0, 0), (32, .iload 5, 0, 0), (34, .invokestatic 39, 1, 0), (37, .dup2, 0, 0), (38, .iaload, 0, 0), (39, .iconst 1, 0, 0), (40, .iload_n 1, 0, 0), (41, .ishl, 0, 0), (42, .ior, 0, 0), (43, .iastore, 0, 0), (44, .iinc 5 1, 0, 0), (47, .goto (-44), 3, 0), (50, .aload_n 0, 0, 0), (51, .dup, 0, 0), (52, .getfield 43, 0, 1), (55, .iconst 1, 0, 0), (56, .iadd, 0, 0), (57, .putfield 43, 0, 1), (60, .return_, 0, 0)]
def mt_7 : List (Nat × Instr × Nat × Nat) := [(0, .iload_n 3, 0, 0), (1, .istore 4, 0, 0), (3, .iload 4, 0, 0), (5, .bipush 64, 0, 0), (7, .if_icmp .ge 47, 54, 0), (10, .aload_n 0, 0, 0), (11, .getfield 15, 0, 4), (14, .iload_n 1, 0, 0), (15, .iload 4, 0, 0), (17, .invokestatic 39, 1, 0), (20, .dup2, 0, 0), (21, .iaload, 0, 0), (22, .iconst 1, 0, 0), (23, .iload_n 2, 0, 0), (24, .ishl, 0, 0), (25, .iconst (-1), 0, 0), (26, .ixor, 0, 0), (27, .iand, 0, 0), (28, .iastore, 0, 0), (29, .aload_n 0, 0, 0), (30, .getfield 15, 0, 4), (33, .iload_n 2, 0, 0), (34, .iload 4, 0, 0), (36, .invokestatic 39, 1, 0), (39, .dup2, 0, 0), (40, .iaload, 0, 0), (41, .iconst 1, 0, 0), (42, .iload_n 1, 0, 0), (43, .ishl, 0, 0), (44, .iconst (-1), 0, 0), (45, .ixor, 0, 0), (46, .iand, 0, 0), (47, .iastore, 0, 0), (48, .iinc 4 1, 0, 0), (51, .goto (-48), 3, 0), (54, .return_, 0, 0)]
def mt_8 : List (Nat × Instr × Nat × Nat) := [(0, .aload_n 0, 0, 0), (1, .getfield 18, 0, 5), (4, .iload_n 1, 0, 0), (5, .iload_n 3, 0, 0), (6, .invokestatic 39, 1, 0), (9, .iaload, 0, 0), (10, .iload_n 2, 0, 0), (11, .invokestatic 28, 44, 0), (14, .ifCond .eq 7, 21, 0), (17, .iconst 1, 0, 0), (18, .goto 4, 22, 0), (21, .iconst 0, 0, 0), (22, .ireturn, 0, 0)]
def mt_9 : List (Nat × Instr × Nat × Nat) := [(0, .aload_n 0, 0, 0), (1, .getfield 21, 0, 6), (4, .iload_n 1, 0, 0), (5, .iload_n 2, 0, 0), (6, .invokestatic 39, 1, 0), (9, .iaload, 0, 0), (10, .ireturn, 0, 0)]
def mt_10 : List (Nat × Instr × Nat × Nat) := [(0, .aload_n 0, 0, 0), (1, .getfield 9, 0, 3), (4, .iload_n 1, 0, 0), (5, .iaload, 0, 0), (6, .aload_n 0, 0, 0), (7, .getfield 21, 0, 6), (10, .iload_n 1, 0, 0), (11, .iload_n 2, 0, 0), (12, .invokestatic 39, 1, 0), (15, .iaload, 0, 0), (16, .isub, 0, 0), (17, .ireturn, 0, 0)]
def mt_11 : List (Nat × Instr × Nat × Nat) := [(0, .iload_n 1, 0, 0), (1, .iload_n 2, 0, 0), (2, .invokestatic 39, 1, 0), (5, .istore_n 3, 0, 0), (6, .aload_n 0, 0, 0), (7, .getfield 15, 0, 4), (10, .iload_n 3, 0, 0), (11, .iaload, 0, 0), (12, .aload_n 0, 0, 0), (13, .getfield 18, 0, 5), (16, .iload_n 3, 0, 0), (17, .iaload, 0, 0), (18, .iconst (-1), 0, 0), (19, .ixor, 0, 0), (20, .iand, 0, 0), (21, .istore 4, 0, 0), (23, .aload_n 0, 0, 0), (24, .getfield 21, 0, 6), (27, .iload_n 3, 0, 0), (28, .iaload, 0, 0), (29, .aload_n 0, 0, 0), (30, .getfield 9, 0, 3), (33, .iload_n 1, 0, 0), (34, .iaload, 0, 0), (35, .if_icmp .ge 12, 47, 0), (38, .iload 4, 0, 0), (40, .iconst 1, 0, 0), (41, .iload_n 1, 0, 0), (42, .ishl, 0, 0), (43, .ior, 0, 0), (44, .goto 5, 49, 0), (47, .iload 4, 0, 0), (49, .ireturn, 0, 0)]
def mt_12 : List (Nat × Instr × Nat × Nat) := [(0, .iload_n 1, 0, 0), (1, .iload_n 2, 0, 0), (2, .if_icmp .ne 20, 22, 0), (5, .aload_n 0, 0, 0), (6, .getfield 21, 0, 6), (9, .iload_n 1, 0, 0), (10, .iload_n 3, 0, 0), (11, .invokestatic 39, 1, 0), (14, .dup2, 0, 0), (15, .iaload, 0, 0), (16, .iconst 1, 0, 0), (17, .iadd, 0, 0), (18, .iastore, 0, 0), (19, .goto 19, 38, 0), (22, .aload_n 0, 0, 0), (23, .getfield 18, 0, 5), (26, .iload_n 1, 0, 0), (27, .iload_n 3, 0, 0), (28, .invokestatic 39, 1, 0), (31, .dup2, 0, 0), (32, .iaload, 0, 0), (33, .iconst 1, 0, 0), (34, .iload_n 2, 0, 0), (35, .ishl, 0, 0), (36, .ior, 0, 0), (37, .iastore, 0, 0), (38, .return_, 0, 0)]
def mt_13 : List (Nat × Instr × Nat × Nat) := [(0, .iload_n 1, 0, 0), (1, .iload_n 2, 0, 0), (2, .if_icmp .ne 20, 22, 0), (5, .aload_n 0, 0, 0), (6, .getfield 21, 0, 6), (9, .iload_n 1, 0, 0), (10, .iload_n 3, 0, 0), (11, .invokestatic 39, 1, 0), (14, .dup2, 0, 0), (15, .iaload, 0, 0), (16, .iconst 1, 0, 0), (17, .isub, 0, 0), (18, .iastore, 0, 0), (19, .goto 21, 40, 0), (22, .aload_n 0, 0, 0), (23, .getfield 18, 0, 5), (26, .iload_n 1, 0, 0), (27, .iload_n 3, 0, 0), (28, .invokestatic 39, 1, 0), (31, .dup2, 0, 0), (32, .iaload, 0, 0), (33, .iconst 1, 0, 0), (34, .iload_n 2, 0, 0), (35, .ishl, 0, 0), (36, .iconst (-1), 0, 0), (37, .ixor, 0, 0), (38, .iand, 0, 0), (39, .iastore, 0, 0), (40, .return_, 0, 0)]
def mt_14 : List (Nat × Instr × Nat × Nat) := [(0, .aload_n 0, 0, 0), (1, .invokespecial 3, 1000, 0), (4, .aload_n 0, 0, 0), (5, .bipush 65, 0, 0), (7, .newarray .int, 0, 0), (9, .putfield 9, 1, 2), (12, .aload_n 0, 0, 0), (13, .iconst (-1), 0, 0), (14, .putfield 15, 1, 3), (17, .aload_n 0, 0, 0), (18, .iconst 0, 0, 0), (19, .putfield 19, 1, 4), (22, .aload_n 0, 0, 0), (23, .iload_n 1, 0, 0), (24, .putfield 22, 1, 0), (27, .aload_n 0, 0, 0), (28, .iload_n 2, 0, 0), (29, .putfield 25, 1, 1), (32, .return_, 0, 0)]
def mt_15 : List (Nat × Instr × Nat × Nat) := [(0, .aload_n 0, 0, 0), (1, .getfield 19, 1, 4), (4, .ifCond .eq 8, 12, 0), (7, .aload_n 0, 0, 0), (8, .getfield 19, 1, 4), (11, .ireturn, 0, 0), (12, .iload_n 1, 0, 0), (13, .aload_n 0, 0, 0), (14, .getfield 25, 1, 1), (17, .if_icmp .ge 5, 22, 0), (20, .iconst 1, 0, 0), (21, .ireturn, 0, 0), (22, .iload_n 1, 0, 0), (23, .aload_n 0, 0, 0), (24, .getfield 15, 1, 3), (27, .if_icmp .ge 7, 34, 0), (30, .iconst 2, 0, 0), (31, .goto 4, 35, 0), (34, .iconst 3, 0, 0), (35, .ireturn, 0, 0)]
def mt_16 : List (Nat × Instr × Nat × Nat) := [(0, .aload_n 0, 0, 0), (1, .iload_n 1, 0, 0), (2, .invokevirtual 28, 15, 0), (5, .istore_n 2, 0, 0), (6, .iload_n 2, 0, 0), (7, .iconst 1, 0, 0), (8, .if_icmp .eq 8, 16, 0), (11, .iload_n 2, 0, 0), (12, .iconst 2, 0, 0), (13, .if_icmp .ne 7, 20, 0), (16, .iconst 1, 0, 0), (17, .goto 4, 21, 0), (20, .iconst 0, 0, 0), (21, .ireturn, 0, 0)]
def mt_17 : List (Nat × Instr × Nat × Nat) := [(0, .iload_n 1, 0, 0), (1, .aload_n 0, 0, 0), (2, .getfield 25, 1, 1), (5, .if_icmp .lt 20, 25, 0), (8, .iload_n 1, 0, 0), (9, .aload_n 0, 0, 0), (10, .getfield 15, 1, 3), (13, .if_icmp .gt 12, 25, 0), (16, .aload_n 0, 0, 0), (17, .getfield 9, 1, 2), (20, .iload_n 1, 0, 0), (21, .iaload, 0, 0), (22, .goto 4, 26, 0), (25, .iconst (-1), 0, 0), (26, .ireturn, 0, 0)]
def mt_18 : List (Nat × Instr × Nat × Nat) := [(0, .aload_n 0, 0, 0), (1, .getfield 25, 1, 1), (4, .iload_n 3, 0, 0), (5, .invokestatic 32, 1000, 0), (8, .istore 4, 0, 0), (10, .iload 4, 0, 0), (12, .aload_n 0, 0, 0), (13, .getfield 15, 1, 3), (16, .if_icmp .ge 83, 99, 0), (19, .aload_n 0, 0, 0), (20, .getfield 9, 1, 2), (23, .iload 4, 0, 0), (25, .iaload, 0, 0), (26, .iload_n 1, 0, 0), (27, .if_icmp .ne 20, 47, 0), (30, .aload_n 0, 0, 0), (31, .getfield 9, 1, 2), (34, .iload 4, 0, 0), (36, .iconst 1, 0, 0), (37, .iadd, 0, 0), (38, .iaload, 0, 0), (39, .iload_n 2, 0, 0), (40, .if_icmp .ne 7, 47, 0), (43, .iconst 1, 0, 0), (44, .goto 4, 48, 0), (47, .iconst 0, 0, 0), (48, .istore 5, 0, 0), (50, .aload_n 0, 0, 0), (51, .getfield 9, 1, 2), (54, .iload 4, 0, 0), (56, .iaload, 0, 0), (57, .iload_n 2, 0, 0), (58, .if_icmp .ne 20, 78, 0), (61, .aload_n 0, 0, 0), (62, .getfield 9, 1, 2), (65, .iload 4, 0, 0), (67, .iconst 1, 0, 0), (68, .iadd, 0, 0), (69, .iaload, 0, 0), (70, .iload_n 1, 0, 0), (71, .if_icmp .ne 7, 78, 0), (74, .iconst 1, 0, 0), (75, .goto 4, 79, 0), (78, .iconst 0, 0, 0), (79, .istore 6, 0, 0), (81, .iload 5, 0, 0), (83, .ifCond .ne 8, 91, 0), (86, .iload 6, 0, 0), (88, .ifCond .eq 5, 93, 0), (91, .iconst 1, 0, 0), (92, .ireturn, 0, 0), (93, .iinc 4 1, 0, 0), (96, .goto (-86), 10, 0), (99, .iconst 0, 0, 0), (100, .ireturn, 0, 0)]
def mt_19 : List (Nat × Instr × Nat × Nat) := [(0, .aload_n 0, 0, 0), (1, .invokespecial 3, 1000, 0), (4, .aload_n 0, 0, 0), (5, .bipush 65, 0, 0), (7, .newarray .int, 0, 0), (9, .putfield 9, 2, 0), (12, .aload_n 0, 0, 0), (13, .bipush 65, 0, 0), (15, .newarray .int, 0, 0), (17, .putfield 15, 2, 1), (20, .return_, 0, 0)]
def mt_20 : List (Nat × Instr × Nat × Nat) := [(0, .aload_n 1, 0, 0), (1, .iload_n 2, 0, 0), (2, .iload_n 3, 0, 0), (3, .iload 4, 0, 0), (5, .invokestatic 18, 21, 0), (8, .istore 5, 0, 0), (10, .iload 5, 0, 0), (12, .iconst (-1), 0, 0), (13, .if_icmp .eq 22, 35, 0), (16, .aload_n 0, 0, 0), (17, .aload_n 1, 0, 0), (18, .iload_n 3, 0, 0), (19, .iload 5, 0, 0), (21, .iload 4, 0, 0), (23, .invokevirtual 22, 23, 0), (26, .aload_n 0, 0, 0), (27, .aload_n 1, 0, 0), (28, .iload_n 2, 0, 0), (29, .iload_n 3, 0, 0), (30, .iload 5, 0, 0), (32, .invokevirtual 26, 24, 0), (35, .iload 5, 0, 0), (37, .ireturn, 0, 0)]
def mt_21 : List (Nat × Instr × Nat × Nat) := [(0, .iconst 1, 0, 0), (1, .iload_n 1, 0, 0), (2, .ishl, 0, 0), (3, .istore 4, 0, 0), (5, .iload_n 2, 0, 0), (6, .istore 5, 0, 0), (8, .iload 5, 0, 0), (10, .bipush 64, 0, 0), (12, .if_icmp .ge 33, 45, 0), (15, .aload_n 0, 0, 0), (16, .iload 4, 0, 0), (18, .iload 5, 0, 0), (20, .invokestatic 29, 22, 0), (23, .istore 4, 0, 0), (25, .iload 4, 0, 0), (27, .iload_n 3, 0, 0), (28, .invokestatic 33, 44, 0), (31, .ifCond .eq 8, 39, 0), (34, .iload 5, 0, 0), (36, .iconst 1, 0, 0), (37, .iadd, 0, 0), (38, .ireturn, 0, 0), (39, .iinc 5 1, 0, 0), (42, .goto (-34), 8, 0), (45, .iconst (-1), 0, 0), (46, .ireturn, 0, 0)]
def mt_22 : List (Nat × Instr × Nat × Nat) := [(0, .iconst 0, 0, 0), (1, .istore_n 3, 0, 0), (2, .iconst 0, 0, 0), (3, .istore 4, 0, 0), (5, .iload 4, 0, 0), (7, .bipush 8, 0, 0), (9, .if_icmp .ge 28, 37, 0), (12, .iload_n 1, 0, 0), (13, .iload 4, 0, 0), (15, .invokestatic 33, 44, 0), (18, .ifCond .eq 13, 31, 0), (21, .iload_n 3, 0, 0), (22, .aload_n 0, 0, 0), (23, .iload 4, 0, 0), (25, .iload_n 2, 0, 0), (26, .invokevirtual 37, 11, 0), (29, .ior, 0, 0), (30, .istore_n 3, 0, 0), (31, .iinc 4 1, 0, 0), (34, .goto (-29), 5, 0), (37, .iload_n 3, 0, 0), (38, .ireturn, 0, 0)]
def mt_23 : List (Nat × Instr × Nat × Nat) := [(0, .aload_n 0, 0, 0), (1, .getfield 15, 2, 1), (4, .iload_n 3, 0, 0), (5, .iconst 1, 0, 0), (6, .iload 4, 0, 0), (8, .ishl, 0, 0), (9, .iastore, 0, 0), (10, .iload_n 3, 0, 0), (11, .iconst 1, 0, 0), (12, .isub, 0, 0), (13, .istore 5, 0, 0), (15, .iload 5, 0, 0), (17, .iload_n 2, 0, 0), (18, .if_icmp .lt 67, 85, 0), (21, .iconst 0, 0, 0), (22, .istore 6, 0, 0), (24, .iconst 0, 0, 0), (25, .istore 7, 0, 0), (27, .iload 7, 0, 0), (29, .bipush 8, 0, 0), (31, .if_icmp .ge 39, 70, 0), (34, .aload_n 1, 0, 0), (35, .iload 7, 0, 0), (37, .iload 5, 0, 0), (39, .invokevirtual 37, 11, 0), (42, .aload_n 0, 0, 0), (43, .getfield 15, 2, 1), (46, .iload 5, 0, 0), (48, .iconst 1, 0, 0), (49, .iadd, 0, 0), (50, .iaload, 0, 0), (51, .iand, 0, 0), (52, .ifCond .eq 12, 64, 0), (55, .iload 6, 0, 0), (57, .iconst 1, 0, 0), (58, .iload 7, 0, 0), (60, .ishl, 0, 0), (61, .ior, 0, 0), (62, .istore 6, 0, 0), (64, .iinc 7 1, 0, 0), (67, .goto (-40), 27, 0), (70, .aload_n 0, 0, 0), (71, .getfield 15, 2, 1), (74, .iload 5, 0, 0), (76, .iload 6, 0, 0), (78, .iastore, 0, 0), (79, .iinc 5 (-1), 0, 0), (82, .goto (-67), 15, 0), (85, .return_, 0, 0)]
def mt_24 : List (Nat × Instr × Nat × Nat) := [(0, .aload_n 0, 0, 0), (1, .getfield 9, 2, 0), (4, .iload_n 3, 0, 0), (5, .iload_n 2, 0, 0), (6, .iastore, 0, 0), (7, .iload_n 3, 0, 0), (8, .istore 5, 0, 0), (10, .iload 5, 0, 0), (12, .iload 4, 0, 0), (14, .if_icmp .ge 44, 58, 0), (17, .aload_n 0, 0, 0), (18, .getfield 9, 2, 0), (21, .iload 5, 0, 0), (23, .iconst 1, 0, 0), (24, .iadd, 0, 0), (25, .aload_n 1, 0, 0), (26, .aload_n 0, 0, 0), (27, .getfield 9, 2, 0), (30, .iload 5, 0, 0), (32, .iaload, 0, 0), (33, .iload 5, 0, 0), (35, .invokevirtual 37, 11, 0), (38, .aload_n 0, 0, 0), (39, .getfield 15, 2, 1), (42, .iload 5, 0, 0), (44, .iconst 1, 0, 0), (45, .iadd, 0, 0), (46, .iaload, 0, 0), (47, .iand, 0, 0), (48, .invokestatic 43, 25, 0), (51, .iastore, 0, 0), (52, .iinc 5 1, 0, 0), (55, .goto (-45), 10, 0), (58, .return_, 0, 0)]
def mt_25 : List (Nat × Instr × Nat × Nat) := [(0, .iconst 0, 0, 0), (1, .istore_n 1, 0, 0), (2, .iload_n 1, 0, 0), (3, .bipush 7, 0, 0), (5, .if_icmp .ge 17, 22, 0), (8, .iload_n 0, 0, 0), (9, .iload_n 1, 0, 0), (10, .invokestatic 33, 44, 0), (13, .ifCond .ne 9, 22, 0), (16, .iinc 1 1, 0, 0), (19, .goto (-17), 2, 0), (22, .iload_n 1, 0, 0), (23, .ireturn, 0, 0)]
def mt_26 : List (Nat × Instr × Nat × Nat) := [(0, .aload_n 0, 0, 0), (1, .invokespecial 1, 1000, 0), (4, .aload_n 0, 0, 0), (5, .new 7, 0, 0), (8, .dup, 0, 0), (9, .invokespecial 9, 0, 0), (12, .putfield 10, 3, 0), (15, .aload_n 0, 0, 0), (16, .new 16, 2, 0), (19, .dup, 0, 0), (20, .invokespecial 18, 19, 0), (23, .putfield 19, 3, 1), (26, .aload_n 0, 0, 0), (27, .bipush 32, 0, 0), (29, .anewarray 23, 0, 0), (32, .putfield 25, 3, 2), (35, .aload_n 0, 0, 0), (36, .iconst 0, 0, 0), (37, .putfield 29, 3, 3), (40, .aload_n 0, 0, 0), (41, .iconst 0, 0, 0), (42, .putfield 33, 3, 4), (45, .return_, 0, 0)]
def mt_27 : List (Nat × Instr × Nat × Nat) := [(0, .iload_n 1, 0, 0), (1, .ifCond .lt 9, 10, 0), (4, .iload_n 1, 0, 0), (5, .bipush 8, 0, 0), (7, .if_icmp .lt 13, 20, 0), (10, .new 36, 0, 1), (20, .iload_n 2, 0, 0), (21, .ifCond .lt 8, 29, 0), (24, .iload_n 2, 0, 0), (25, .iconst 4, 0, 0), (26, .if_icmp .le 13, 39, 0), (29, .new 36, 0, 1), (39, .aload_n 0, 0, 0), (40, .getfield 10, 3, 0), (43, .iload_n 1, 0, 0), (44, .invokevirtual 45, 2, 0), (47, .ifCond .eq 13, 60, 0), (50, .new 49, 1, 1), (60, .aload_n 0, 0, 0), (61, .getfield 10, 3, 0), (64, .getfield 54, 0, 1), (67, .ifCond .le 13, 80, 0), (70, .new 49, 1, 1), (80, .aload_n 0, 0, 0), (81, .getfield 10, 3, 0), (84, .iload_n 1, 0, 0), (85, .iload_n 2, 0, 0), (86, .invokevirtual 59, 4, 0), (89, .aload_n 0, 0, 0), (90, .getfield 10, 3, 0), (93, .getfield 63, 0, 0), (96, .ireturn, 0, 0)]
def mt_28 : List (Nat × Instr × Nat × Nat) := [(0, .aload_n 0, 0, 0), (1, .iload_n 1, 0, 0), (2, .iload_n 2, 0, 0), (3, .invokevirtual 66, 46, 0), (6, .iload_n 3, 0, 0), (7, .aload_n 0, 0, 0), (8, .getfield 33, 3, 4), (11, .if_icmp .lt 16, 27, 0), (14, .iload_n 3, 0, 0), (15, .iload 4, 0, 0), (17, .if_icmp .ge 10, 27, 0), (20, .iload 4, 0, 0), (22, .bipush 64, 0, 0), (24, .if_icmp .le 13, 37, 0), (27, .new 36, 0, 1), (37, .aload_n 0, 0, 0), (38, .getfield 10, 3, 0), (41, .getfield 54, 0, 1), (44, .bipush 24, 0, 0), (46, .if_icmp .lt 13, 59, 0), (49, .new 49, 1, 1), (59, .aload_n 0, 0, 0), (60, .getfield 10, 3, 0), (63, .iload_n 1, 0, 0), (64, .iload_n 2, 0, 0), (65, .iload_n 3, 0, 0), (66, .iload 4, 0, 0), (68, .invokevirtual 73, 5, 0), (71, .ifCond .eq 13, 84, 0), (74, .new 49, 1, 1), (84, .aload_n 0, 0, 0), (85, .getfield 10, 3, 0), (88, .iload_n 1, 0, 0), (89, .iload_n 2, 0, 0), (90, .iload_n 3, 0, 0), (91, .iload 4, 0, 0), (93, .invokevirtual 79, 6, 0), (96, .aload_n 0, 0, 0), (97, .getfield 10, 3, 0), (100, .getfield 54, 0, 1), (103, .ireturn, 0, 0)]
def mt_29 : List (Nat × Instr × Nat × Nat) := [(0, .aload_n 0, 0, 0), (1, .getfield 33, 3, 4), (4, .ireturn, 0, 0)]
def mt_30 : List (Nat × Instr × Nat × Nat) := [(0, .aload_n 0, 0, 0), (1, .iload_n 1, 0, 0), (2, .iload_n 2, 0, 0), (3, .iload_n 3, 0, 0), (4, .invokevirtual 83, 47, 0), (7, .aload_n 0, 0, 0), (8, .getfield 19, 3, 1), (11, .aload_n 0, 0, 0), (12, .getfield 10, 3, 0), (15, .iload_n 1, 0, 0), (16, .iload_n 3, 0, 0), (17, .iload_n 2, 0, 0), (18, .invokevirtual 87, 20, 0), (21, .istore 4, 0, 0), (23, .iload 4, 0, 0), (25, .iconst (-1), 0, 0), (26, .if_icmp .ne 5, 31, 0), (29, .iconst (-1), 0, 0), (30, .ireturn, 0, 0), (31, .new 23, 1, 0), (34, .dup, 0, 0), (35, .iload_n 2, 0, 0), (36, .iload_n 3, 0, 0), (37, .invokespecial 91, 14, 0), (40, .astore 5, 0, 0), (42, .aload_n 0, 0, 0), (43, .aload 5, 0, 0), (45, .iload_n 3, 0, 0), (46, .iload 4, 0, 0), (48, .invokevirtual 93, 48, 0), (51, .aload_n 0, 0, 0), (52, .getfield 25, 3, 2), (55, .aload_n 0, 0, 0), (56, .getfield 29, 3, 3), (59, .aload 5, 0, 0), (61, .aastore, 0, 0), (62, .aload_n 0, 0, 0), (63, .dup, 0, 0), (64, .getfield 29, 3, 3), (67, .iconst 1, 0, 0), (68, .iadd, 0, 0), (69, .putfield 29, 3, 3), (72, .aload_n 0, 0, 0), (73, .getfield 29, 3, 3), (76, .iconst 1, 0, 0), (77, .isub, 0, 0), (78, .ireturn, 0, 0)]
def mt_31 : List (Nat × Instr × Nat × Nat) := [(0, .aload_n 0, 0, 0), (1, .iload_n 1, 0, 0), (2, .iload_n 2, 0, 0), (3, .iload_n 3, 0, 0), (4, .invokevirtual 83, 47, 0), (7, .aload_n 0, 0, 0), (8, .getfield 19, 3, 1), (11, .aload_n 0, 0, 0), (12, .getfield 10, 3, 0), (15, .iload_n 1, 0, 0), (16, .iload_n 3, 0, 0), (17, .iload_n 2, 0, 0), (18, .invokevirtual 87, 20, 0), (21, .ireturn, 0, 0)]
def mt_32 : List (Nat × Instr × Nat × Nat) := [(0, .aload_n 0, 0, 0), (1, .iload_n 1, 0, 0), (2, .invokevirtual 97, 45, 0), (5, .astore_n 2, 0, 0), (6, .aload_n 2, 0, 0), (7, .ifnonnull 13, 20, 0), (10, .new 101, 2, 1), (20, .aload_n 2, 0, 0), (21, .aload_n 0, 0, 0), (22, .getfield 33, 3, 4), (25, .invokevirtual 106, 16, 0), (28, .ifCond .ne 13, 41, 0), (31, .new 49, 1, 1), (41, .aload_n 2, 0, 0), (42, .iconst 4, 0, 0), (43, .putfield 111, 1, 4), (46, .aload_n 0, 0, 0), (47, .aload_n 2, 0, 0), (48, .invokevirtual 114, 49, 0), (51, .ireturn, 0, 0)]
def mt_33 : List (Nat × Instr × Nat × Nat) := [(0, .aload_n 0, 0, 0), (1, .iload_n 1, 0, 0), (2, .iload_n 2, 0, 0), (3, .invokevirtual 66, 46, 0), (6, .aload_n 0, 0, 0), (7, .getfield 10, 3, 0), (10, .iload_n 1, 0, 0), (11, .iload_n 2, 0, 0), (12, .aload_n 0, 0, 0), (13, .getfield 33, 3, 4), (16, .invokevirtual 118, 7, 0), (19, .aload_n 0, 0, 0), (20, .iload_n 1, 0, 0), (21, .iload_n 2, 0, 0), (22, .invokevirtual 121, 50, 0), (25, .lstore_n 3, 0, 0), (26, .iconst 0, 0, 0), (27, .istore 5, 0, 0), (29, .iconst 0, 0, 0), (30, .istore 6, 0, 0), (32, .iload 6, 0, 0), (34, .aload_n 0, 0, 0), (35, .getfield 29, 3, 3), (38, .if_icmp .ge 51, 89, 0), (41, .aload_n 0, 0, 0), (42, .iload 6, 0, 0), (44, .invokevirtual 97, 45, 0), (47, .astore 7, 0, 0), (49, .aload 7, 0, 0), (51, .ifnull 32, 83, 0), (54, .lload_n 3, 0, 0), (55, .iload 6, 0, 0), (57, .lshr, 0, 0), (58, .lconst 1, 0, 0), (59, .land, 0, 0), (60, .lconst 0, 0, 0), (61, .lcmp, 0, 0), (62, .ifCond .eq 21, 83, 0), (65, .aload_n 0, 0, 0), (66, .aload 7, 0, 0), (68, .invokevirtual 125, 51, 0), (71, .ifCond .ne 12, 83, 0), (74, .aload 7, 0, 0), (76, .iconst 5, 0, 0), (77, .putfield 111, 1, 4), (80, .iinc 5 1, 0, 0), (83, .iinc 6 1, 0, 0), (86, .goto (-54), 32, 0), (89, .iload 5, 0, 0), (91, .ireturn, 0, 0)]
def mt_34 : List (Nat × Instr × Nat × Nat) := [(0, .aload_n 0, 0, 0), (1, .getfield 33, 3, 4), (4, .bipush 64, 0, 0), (6, .if_icmp .lt 13, 19, 0), (9, .new 49, 1, 1), (19, .aload_n 0, 0, 0), (20, .dup, 0, 0), (21, .getfield 33, 3, 4), (24, .iconst 1, 0, 0), (25, .iadd, 0, 0), (26, .putfield 33, 3, 4), (29, .iconst 0, 0, 0), (30, .istore_n 1, 0, 0), (31, .iconst 0, 0, 0), (32, .istore_n 2, 0, 0), (33, .iload_n 2, 0, 0), (34, .aload_n 0, 0, 0), (35, .getfield 29, 3, 3), (38, .if_icmp .ge 45, 83, 0), (41, .aload_n 0, 0, 0), (42, .iload_n 2, 0, 0), (43, .invokevirtual 97, 45, 0), (46, .astore_n 3, 0, 0), (47, .aload_n 3, 0, 0), (48, .ifnull 29, 77, 0), (51, .aload_n 3, 0, 0), (52, .aload_n 0, 0, 0), (53, .getfield 33, 3, 4), (56, .invokevirtual 131, 15, 0), (59, .iconst 3, 0, 0), (60, .if_icmp .ne 17, 77, 0), (63, .aload_n 3, 0, 0), (64, .getfield 135, 1, 3), (67, .aload_n 0, 0, 0), (68, .getfield 33, 3, 4), (71, .if_icmp .ne 6, 77, 0), (74, .iinc 1 1, 0, 0), (77, .iinc 2 1, 0, 0), (80, .goto (-47), 33, 0), (83, .iload_n 1, 0, 0), (84, .ireturn, 0, 0)]
def mt_35 : List (Nat × Instr × Nat × Nat) := [(0, .aload_n 0, 0, 0), (1, .iload_n 1, 0, 0), (2, .invokevirtual 97, 45, 0), (5, .astore_n 2, 0, 0), (6, .aload_n 2, 0, 0), (7, .ifnonnull 7, 14, 0), (10, .iconst 0, 0, 0), (11, .goto 11, 22, 0), (14, .aload_n 2, 0, 0), (15, .aload_n 0, 0, 0), (16, .getfield 33, 3, 4), (19, .invokevirtual 131, 15, 0), (22, .ireturn, 0, 0)]
def mt_36 : List (Nat × Instr × Nat × Nat) := [(0, .aload_n 0, 0, 0), (1, .iload_n 1, 0, 0), (2, .invokevirtual 97, 45, 0), (5, .astore_n 2, 0, 0), (6, .aload_n 2, 0, 0), (7, .ifnull 26, 33, 0), (10, .aload_n 2, 0, 0), (11, .aload_n 0, 0, 0), (12, .getfield 33, 3, 4), (15, .invokevirtual 131, 15, 0), (18, .iconst 2, 0, 0), (19, .if_icmp .ne 14, 33, 0), (22, .aload_n 2, 0, 0), (23, .aload_n 0, 0, 0), (24, .getfield 33, 3, 4), (27, .invokevirtual 138, 17, 0), (30, .goto 4, 34, 0), (33, .iconst (-1), 0, 0), (34, .ireturn, 0, 0)]
def mt_37 : List (Nat × Instr × Nat × Nat) := [(0, .aload_n 0, 0, 0), (1, .iload_n 1, 0, 0), (2, .invokevirtual 97, 45, 0), (5, .astore_n 2, 0, 0), (6, .aload_n 2, 0, 0), (7, .ifnull 17, 24, 0), (10, .aload_n 2, 0, 0), (11, .getfield 111, 1, 4), (14, .ifCond .ne 10, 24, 0), (17, .aload_n 2, 0, 0), (18, .getfield 135, 1, 3), (21, .goto 4, 25, 0), (24, .iconst (-1), 0, 0), (25, .ireturn, 0, 0)]
def mt_38 : List (Nat × Instr × Nat × Nat) := [(0, .aload_n 0, 0, 0), (1, .iload_n 1, 0, 0), (2, .invokevirtual 97, 45, 0), (5, .astore_n 3, 0, 0), (6, .aload_n 3, 0, 0), (7, .ifnonnull 7, 14, 0), (10, .iconst (-1), 0, 0), (11, .goto 8, 19, 0), (14, .aload_n 3, 0, 0), (15, .iload_n 2, 0, 0), (16, .invokevirtual 138, 17, 0), (19, .ireturn, 0, 0)]
def mt_39 : List (Nat × Instr × Nat × Nat) := [(0, .aload_n 0, 0, 0), (1, .getfield 10, 3, 0), (4, .iload_n 1, 0, 0), (5, .iload_n 2, 0, 0), (6, .invokevirtual 141, 3, 0), (9, .ifCond .eq 23, 32, 0), (12, .iload_n 3, 0, 0), (13, .invokestatic 145, 43, 0), (16, .ifCond .eq 16, 32, 0), (19, .aload_n 0, 0, 0), (20, .getfield 10, 3, 0), (23, .iload_n 1, 0, 0), (24, .iload_n 2, 0, 0), (25, .iload_n 3, 0, 0), (26, .invokevirtual 148, 8, 0), (29, .goto 4, 33, 0), (32, .iconst 0, 0, 0), (33, .ireturn, 0, 0)]
def mt_40 : List (Nat × Instr × Nat × Nat) := [(0, .aload_n 0, 0, 0), (1, .getfield 10, 3, 0), (4, .iload_n 1, 0, 0), (5, .invokevirtual 45, 2, 0), (8, .ifCond .eq 22, 30, 0), (11, .iload_n 2, 0, 0), (12, .invokestatic 145, 43, 0), (15, .ifCond .eq 15, 30, 0), (18, .aload_n 0, 0, 0), (19, .getfield 10, 3, 0), (22, .iload_n 1, 0, 0), (23, .iload_n 2, 0, 0), (24, .invokevirtual 152, 9, 0), (27, .goto 4, 31, 0), (30, .iconst 0, 0, 0), (31, .ireturn, 0, 0)]
def mt_41 : List (Nat × Instr × Nat × Nat) := [(0, .aload_n 0, 0, 0), (1, .getfield 10, 3, 0), (4, .iload_n 1, 0, 0), (5, .iload_n 2, 0, 0), (6, .invokevirtual 141, 3, 0), (9, .ifCond .eq 30, 39, 0), (12, .iload_n 3, 0, 0), (13, .invokestatic 145, 43, 0), (16, .ifCond .eq 23, 39, 0), (19, .aload_n 0, 0, 0), (20, .getfield 10, 3, 0), (23, .iload_n 1, 0, 0), (24, .iload_n 2, 0, 0), (25, .iload_n 3, 0, 0), (26, .iload_n 3, 0, 0), (27, .iconst 1, 0, 0), (28, .iadd, 0, 0), (29, .invokevirtual 73, 5, 0), (32, .ifCond .eq 7, 39, 0), (35, .iconst 1, 0, 0), (36, .goto 4, 40, 0), (39, .iconst 0, 0, 0), (40, .ireturn, 0, 0)]
def mt_42 : List (Nat × Instr × Nat × Nat) := [(0, .aload_n 0, 0, 0), (1, .getfield 10, 3, 0), (4, .iload_n 1, 0, 0), (5, .invokevirtual 45, 2, 0), (8, .ifCond .eq 22, 30, 0), (11, .iload_n 2, 0, 0), (12, .invokestatic 145, 43, 0), (15, .ifCond .eq 15, 30, 0), (18, .aload_n 0, 0, 0), (19, .getfield 10, 3, 0), (22, .iload_n 1, 0, 0), (23, .iload_n 2, 0, 0), (24, .invokevirtual 156, 10, 0), (27, .goto 4, 31, 0), (30, .iconst (-1), 0, 0), (31, .ireturn, 0, 0)]
def mt_43 : List (Nat × Instr × Nat × Nat) := [(0, .iload_n 0, 0, 0), (1, .ifCond .lt 13, 14, 0), (4, .iload_n 0, 0, 0), (5, .bipush 64, 0, 0), (7, .if_icmp .ge 7, 14, 0), (10, .iconst 1, 0, 0), (11, .goto 4, 15, 0), (14, .iconst 0, 0, 0), (15, .ireturn, 0, 0)]
def mt_44 : List (Nat × Instr × Nat × Nat) := [(0, .iload_n 0, 0, 0), (1, .iload_n 1, 0, 0), (2, .ishr, 0, 0), (3, .iconst 1, 0, 0), (4, .iand, 0, 0), (5, .ifCond .eq 7, 12, 0), (8, .iconst 1, 0, 0), (9, .goto 4, 13, 0), (12, .iconst 0, 0, 0), (13, .ireturn, 0, 0)]
def mt_45 : List (Nat × Instr × Nat × Nat) := [(0, .iload_n 1, 0, 0), (1, .ifCond .lt 20, 21, 0), (4, .iload_n 1, 0, 0), (5, .aload_n 0, 0, 0), (6, .getfield 29, 3, 3), (9, .if_icmp .ge 12, 21, 0), (12, .aload_n 0, 0, 0), (13, .getfield 25, 3, 2), (16, .iload_n 1, 0, 0), (17, .aaload, 0, 0), (18, .goto 4, 22, 0), (21, .aconst_null, 0, 0), (22, .areturn, 0, 0)]
def mt_46 : List (Nat × Instr × Nat × Nat) := [(0, .aload_n 0, 0, 0), (1, .getfield 10, 3, 0), (4, .iload_n 1, 0, 0), (5, .iload_n 2, 0, 0), (6, .invokevirtual 141, 3, 0), (9, .ifCond .ne 13, 22, 0), (12, .new 36, 0, 1), (22, .return_, 0, 0)]
def mt_47 : List (Nat × Instr × Nat × Nat) := [(0, .aload_n 0, 0, 0), (1, .iload_n 1, 0, 0), (2, .iload_n 2, 0, 0), (3, .invokevirtual 66, 46, 0), (6, .iload_n 3, 0, 0), (7, .aload_n 0, 0, 0), (8, .getfield 33, 3, 4), (11, .if_icmp .lt 9, 20, 0), (14, .iload_n 3, 0, 0), (15, .bipush 64, 0, 0), (17, .if_icmp .lt 13, 30, 0), (20, .new 36, 0, 1), (30, .aload_n 0, 0, 0), (31, .getfield 29, 3, 3), (34, .bipush 32, 0, 0), (36, .if_icmp .lt 13, 49, 0), (39, .new 49, 1, 1), (49, .return_, 0, 0)]
def mt_48 : List (Nat × Instr × Nat × Nat) := [(0, .iload_n 2, 0, 0), (1, .istore 4, 0, 0), (3, .iload 4, 0, 0), (5, .iload_n 3, 0, 0), (6, .if_icmp .gt 26, 32, 0), (9, .aload_n 1, 0, 0), (10, .getfield 165, 1, 2), (13, .iload 4, 0, 0), (15, .aload_n 0, 0, 0), (16, .getfield 19, 3, 1), (19, .getfield 168, 2, 0), (22, .iload 4, 0, 0), (24, .iaload, 0, 0), (25, .iastore, 0, 0), (26, .iinc 4 1, 0, 0), (29, .goto (-26), 3, 0), (32, .aload_n 1, 0, 0), (33, .iload_n 3, 0, 0), (34, .putfield 135, 1, 3), (37, .iload_n 2, 0, 0), (38, .istore 4, 0, 0), (40, .iload 4, 0, 0), (42, .iload_n 3, 0, 0), (43, .if_icmp .ge 34, 77, 0), (46, .aload_n 0, 0, 0), (47, .getfield 10, 3, 0), (50, .aload_n 1, 0, 0), (51, .getfield 165, 1, 2), (54, .iload 4, 0, 0), (56, .iaload, 0, 0), (57, .aload_n 1, 0, 0), (58, .getfield 165, 1, 2), (61, .iload 4, 0, 0), (63, .iconst 1, 0, 0), (64, .iadd, 0, 0), (65, .iaload, 0, 0), (66, .iload 4, 0, 0), (68, .invokevirtual 171, 12, 0), (71, .iinc 4 1, 0, 0), (74, .goto (-34), 40, 0), (77, .return_, 0, 0)]
def mt_49 : List (Nat × Instr × Nat × Nat) := [(0, .aload_n 1, 0, 0), (1, .getfield 174, 1, 1), (4, .aload_n 0, 0, 0), (5, .getfield 33, 3, 4), (8, .invokestatic 177, 1000, 0), (11, .istore_n 2, 0, 0), (12, .aload_n 1, 0, 0), (13, .getfield 135, 1, 3), (16, .iload_n 2, 0, 0), (17, .isub, 0, 0), (18, .istore_n 3, 0, 0), (19, .iload_n 2, 0, 0), (20, .istore 4, 0, 0), (22, .iload 4, 0, 0), (24, .aload_n 1, 0, 0), (25, .getfield 135, 1, 3), (28, .if_icmp .ge 34, 62, 0), (31, .aload_n 0, 0, 0), (32, .getfield 10, 3, 0), (35, .aload_n 1, 0, 0), (36, .getfield 165, 1, 2), (39, .iload 4, 0, 0), (41, .iaload, 0, 0), (42, .aload_n 1, 0, 0), (43, .getfield 165, 1, 2), (46, .iload 4, 0, 0), (48, .iconst 1, 0, 0), (49, .iadd, 0, 0), (50, .iaload, 0, 0), (51, .iload 4, 0, 0), (53, .invokevirtual 182, 13, 0), (56, .iinc 4 1, 0, 0), (59, .goto (-37), 22, 0), (62, .aload_n 1, 0, 0), (63, .aload_n 1, 0, 0), (64, .getfield 174, 1, 1), (67, .aload_n 0, 0, 0), (68, .getfield 33, 3, 4), (71, .if_icmp .le 7, 78, 0), (74, .iconst (-1), 0, 0), (75, .goto 7, 82, 0), (78, .aload_n 0, 0, 0), (79, .getfield 33, 3, 4), (82, .putfield 135, 1, 3), (85, .iload_n 3, 0, 0), (86, .ireturn, 0, 0)]
def mt_50 : List (Nat × Instr × Nat × Nat) := [(0, .lconst 0, 0, 0), (1, .lstore_n 3, 0, 0), (2, .iconst 0, 0, 0), (3, .istore 5, 0, 0), (5, .iload 5, 0, 0), (7, .aload_n 0, 0, 0), (8, .getfield 29, 3, 3), (11, .if_icmp .ge 62, 73, 0), (14, .aload_n 0, 0, 0), (15, .iload 5, 0, 0), (17, .invokevirtual 97, 45, 0), (20, .astore 6, 0, 0), (22, .aload 6, 0, 0), (24, .ifnull 43, 67, 0), (27, .aload 6, 0, 0), (29, .aload_n 0, 0, 0), (30, .getfield 33, 3, 4), (33, .invokevirtual 106, 16, 0), (36, .ifCond .eq 31, 67, 0), (39, .aload 6, 0, 0), (41, .iload_n 1, 0, 0), (42, .iload_n 2, 0, 0), (43, .aload_n 0, 0, 0), (44, .getfield 33, 3, 4), (47, .invokevirtual 185, 18, 0), (50, .ifCond .eq 17, 67, 0), (53, .aload_n 0, 0, 0), (54, .aload 6, 0, 0), (56, .invokevirtual 114, 49, 0), (59, .pop, 0, 0), (60, .lload_n 3, 0, 0), (61, .lconst 1, 0, 0), (62, .iload 5, 0, 0), (64, .lshl, 0, 0), (65, .lor, 0, 0), (66, .lstore_n 3, 0, 0), (67, .iinc 5 1, 0, 0), (70, .goto (-65), 5, 0), (73, .lload_n 3, 0, 0), (74, .lreturn, 0, 0)]
def mt_51 : List (Nat × Instr × Nat × Nat) := [(0, .aload_n 1, 0, 0), (1, .getfield 174, 1, 1), (4, .aload_n 0, 0, 0), (5, .getfield 33, 3, 4), (8, .invokestatic 177, 1000, 0), (11, .istore_n 2, 0, 0), (12, .aload_n 0, 0, 0), (13, .getfield 19, 3, 1), (16, .aload_n 0, 0, 0), (17, .getfield 10, 3, 0), (20, .aload_n 1, 0, 0), (21, .getfield 165, 1, 2), (24, .iload_n 2, 0, 0), (25, .iaload, 0, 0), (26, .iload_n 2, 0, 0), (27, .aload_n 1, 0, 0), (28, .getfield 189, 1, 0), (31, .invokevirtual 87, 20, 0), (34, .istore_n 3, 0, 0), (35, .iload_n 3, 0, 0), (36, .iconst (-1), 0, 0), (37, .if_icmp .ne 5, 42, 0), (40, .iconst 0, 0, 0), (41, .ireturn, 0, 0), (42, .aload_n 0, 0, 0), (43, .aload_n 1, 0, 0), (44, .iload_n 2, 0, 0), (45, .iload_n 3, 0, 0), (46, .invokevirtual 93, 48, 0), (49, .iconst 1, 0, 0), (50, .ireturn, 0, 0)]
def mt_52_0 : List (Nat × Instr × Nat × Nat) := [(0, .aload_n 0, 0, 0), (1, .invokespecial 1, 1000, 0), (4, .aload_n 0, 0, 0), (5, .bipush 8, 0, 0), (7, .newarray .int, 0, 0), (9, .dup, 0, 0), (10, .iconst 0, 0, 0), (11, .iconst (-1), 0, 0), (12, .iastore, 0, 0), (13, .dup, 0, 0), (14, .iconst 1, 0, 0), (15, .iconst (-1), 0, 0), (16, .iastore, 0, 0), (17, .dup, 0, 0), (18, .iconst 2, 0, 0), (19, .iconst (-1), 0, 0), (20, .iastore, 0, 0), (21, .dup, 0, 0), (22, .iconst 3, 0, 0), (23, .iconst (-1), 0, 0), (24, .iastore, 0, 0), (25, .dup, 0, 0), (26, .iconst 4, 0, 0), (27, .iconst (-1), 0, 0), (28, .iastore, 0, 0), (29, .dup, 0, 0), (30, .iconst 5, 0, 0), (31, .iconst (-1), 0, 0), (32, .iastore, 0, 0), (33, .dup, 0, 0), (34, .bipush 6, 0, 0), (36, .iconst (-1), 0, 0), (37, .iastore, 0, 0), (38, .dup, 0, 0), (39, .bipush 7, 0, 0), (41, .iconst (-1), 0, 0), (42, .iastore, 0, 0), (43, .putfield 7, 4, 3), (46, .aload_n 0, 0, 0), (47, .sipush 4096, 0, 0), (50, .newarray .boolean, 0, 0), (52, .putfield 13, 4, 4), (55, .aload_n 0, 0, 0), (56, .bipush 32, 0, 0), (58, .newarray .int, 0, 0), (60, .putfield 17, 4, 6), (63, .aload_n 0, 0, 0), (64, .bipush 32, 0, 0), (66, .newarray .int, 0, 0), (68, .putfield 20, 4, 7), (71, .aload_n 0, 0, 0), (72, .bipush 32, 0, 0), (74, .newarray .int, 0, 0), (76, .putfield 23, 4, 8), (79, .aload_n 0, 0, 0), (80, .bipush 32, 0, 0), (82, .newarray .int, 0, 0), (84, .putfield 26, 4, 9), (87, .aload_n 0, 0, 0), (88, .bipush 32, 0, 0)]
def mt_52_1 : List (Nat × Instr × Nat × Nat) := [(90, .newarray .int, 0, 0), (92, .putfield 29, 4, 10), (95, .aload_n 0, 0, 0), (96, .bipush 32, 0, 0), (98, .newarray .int, 0, 0), (100, .putfield 32, 4, 11), (103, .aload_n 0, 0, 0), (104, .sipush 2080, 0, 0), (107, .newarray .int, 0, 0), (109, .putfield 35, 4, 12), (112, .aload_n 0, 0, 0), (113, .bipush 32, 0, 0), (115, .newarray .boolean, 0, 0), (117, .putfield 38, 4, 13), (120, .aload_n 0, 0, 0), (121, .sipush 520, 0, 0), (124, .newarray .int, 0, 0), (126, .putfield 41, 4, 14), (129, .return_, 0, 0)]
def mt_52 : List (Nat × Instr × Nat × Nat) := mt_52_0 ++ (mt_52_1)
def mt_53 : List (Nat × Instr × Nat × Nat) := [(0, .aload_n 0, 0, 0), (1, .getfield 44, 4, 0), (4, .ireturn, 0, 0)]
def mt_54 : List (Nat × Instr × Nat × Nat) := [(0, .iload_n 1, 0, 0), (1, .ifCond .lt 18, 19, 0), (4, .iload_n 1, 0, 0), (5, .bipush 7, 0, 0), (7, .if_icmp .gt 12, 19, 0), (10, .aload_n 0, 0, 0), (11, .getfield 7, 4, 3), (14, .iload_n 1, 0, 0), (15, .iaload, 0, 0), (16, .ifCond .ge 7, 23, 0), (19, .iconst 1, 0, 0), (20, .goto 4, 24, 0), (23, .iconst 0, 0, 0), (24, .ireturn, 0, 0)]
def mt_55 : List (Nat × Instr × Nat × Nat) := [(0, .aload_n 0, 0, 0), (1, .iload_n 1, 0, 0), (2, .invokevirtual 48, 54, 0), (5, .ifCond .ne 16, 21, 0), (8, .aload_n 0, 0, 0), (9, .iload_n 2, 0, 0), (10, .invokevirtual 48, 54, 0), (13, .ifCond .ne 8, 21, 0), (16, .iload_n 1, 0, 0), (17, .iload_n 2, 0, 0), (18, .if_icmp .ne 7, 25, 0), (21, .iconst 1, 0, 0), (22, .goto 4, 26, 0), (25, .iconst 0, 0, 0), (26, .ireturn, 0, 0)]
def mt_56 : List (Nat × Instr × Nat × Nat) := [(0, .iload_n 0, 0, 0), (1, .ifCond .lt 9, 10, 0), (4, .iload_n 0, 0, 0), (5, .bipush 64, 0, 0), (7, .if_icmp .lt 7, 14, 0), (10, .iconst 1, 0, 0), (11, .goto 4, 15, 0), (14, .iconst 0, 0, 0), (15, .ireturn, 0, 0)]
def mt_57 : List (Nat × Instr × Nat × Nat) := [(0, .aload_n 0, 0, 0), (1, .getfield 13, 4, 4), (4, .sipush 512, 0, 0), (7, .iload_n 1, 0, 0), (8, .imul, 0, 0), (9, .bipush 64, 0, 0), (11, .iload_n 2, 0, 0), (12, .imul, 0, 0), (13, .iadd, 0, 0), (14, .iload_n 3, 0, 0), (15, .iadd, 0, 0), (16, .baload, 0, 0), (17, .ireturn, 0, 0)]
def mt_58 : List (Nat × Instr × Nat × Nat) := [(0, .aload_n 0, 0, 0), (1, .getfield 13, 4, 4), (4, .sipush 512, 0, 0), (7, .iload_n 1, 0, 0), (8, .imul, 0, 0), (9, .bipush 64, 0, 0), (11, .iload_n 2, 0, 0), (12, .imul, 0, 0), (13, .iadd, 0, 0), (14, .iload_n 3, 0, 0), (15, .iadd, 0, 0), (16, .iload 4, 0, 0), (18, .bastore, 0, 0), (19, .aload_n 0, 0, 0), (20, .getfield 13, 4, 4), (23, .sipush 512, 0, 0), (26, .iload_n 2, 0, 0), (27, .imul, 0, 0), (28, .bipush 64, 0, 0), (30, .iload_n 1, 0, 0), (31, .imul, 0, 0), (32, .iadd, 0, 0), (33, .iload_n 3, 0, 0), (34, .iadd, 0, 0), (35, .iload 4, 0, 0), (37, .bastore, 0, 0), (38, .return_, 0, 0)]
def mt_59 : List (Nat × Instr × Nat × Nat) := [(0, .iload_n 2, 0, 0), (1, .aload_n 0, 0, 0), (2, .getfield 29, 4, 10), (5, .iload_n 1, 0, 0), (6, .iaload, 0, 0), (7, .if_icmp .lt 50, 57, 0), (10, .iload_n 2, 0, 0), (11, .aload_n 0, 0, 0), (12, .getfield 32, 4, 11), (15, .iload_n 1, 0, 0), (16, .iaload, 0, 0), (17, .if_icmp .ge 40, 57, 0), (20, .aload_n 0, 0, 0), (21, .getfield 35, 4, 12), (24, .bipush 65, 0, 0), (26, .iload_n 1, 0, 0), (27, .imul, 0, 0), (28, .iload_n 2, 0, 0), (29, .iadd, 0, 0), (30, .iaload, 0, 0), (31, .iload_n 3, 0, 0), (32, .if_icmp .ne 25, 57, 0), (35, .aload_n 0, 0, 0), (36, .getfield 35, 4, 12), (39, .bipush 65, 0, 0), (41, .iload_n 1, 0, 0), (42, .imul, 0, 0), (43, .iload_n 2, 0, 0), (44, .iadd, 0, 0), (45, .iconst 1, 0, 0), (46, .iadd, 0, 0), (47, .iaload, 0, 0), (48, .iload 4, 0, 0), (50, .if_icmp .ne 7, 57, 0), (53, .iconst 1, 0, 0), (54, .goto 4, 58, 0), (57, .iconst 0, 0, 0), (58, .ireturn, 0, 0)]
def mt_60 : List (Nat × Instr × Nat × Nat) := [(0, .iconst 0, 0, 0), (1, .istore 4, 0, 0), (3, .iconst 0, 0, 0), (4, .istore 5, 0, 0), (6, .iload 5, 0, 0), (8, .aload_n 0, 0, 0), (9, .getfield 52, 4, 5), (12, .if_icmp .ge 32, 44, 0), (15, .aload_n 0, 0, 0), (16, .iload 5, 0, 0), (18, .iload_n 1, 0, 0), (19, .iload_n 2, 0, 0), (20, .iload_n 3, 0, 0), (21, .invokevirtual 55, 59, 0), (24, .ifCond .eq 10, 34, 0), (27, .iload 4, 0, 0), (29, .iconst 1, 0, 0), (30, .iadd, 0, 0), (31, .goto 5, 36, 0), (34, .iload 4, 0, 0), (36, .istore 4, 0, 0), (38, .iinc 5 1, 0, 0), (41, .goto (-35), 6, 0), (44, .iload 4, 0, 0), (46, .ireturn, 0, 0)]
def mt_61 : List (Nat × Instr × Nat × Nat) := [(0, .iload_n 2, 0, 0), (1, .iload_n 3, 0, 0), (2, .if_icmp .ne 27, 29, 0), (5, .aload_n 0, 0, 0), (6, .iload_n 1, 0, 0), (7, .iload_n 2, 0, 0), (8, .iload_n 2, 0, 0), (9, .invokevirtual 59, 60, 0), (12, .aload_n 0, 0, 0), (13, .getfield 7, 4, 3), (16, .iload_n 2, 0, 0), (17, .iaload, 0, 0), (18, .if_icmp .ge 7, 25, 0), (21, .iconst 1, 0, 0), (22, .goto 32, 54, 0), (25, .iconst 0, 0, 0), (26, .goto 28, 54, 0), (29, .aload_n 0, 0, 0), (30, .iload_n 2, 0, 0), (31, .iload_n 3, 0, 0), (32, .iload_n 1, 0, 0), (33, .invokevirtual 63, 57, 0), (36, .ifCond .eq 17, 53, 0), (39, .aload_n 0, 0, 0), (40, .iload_n 1, 0, 0), (41, .iload_n 2, 0, 0), (42, .iload_n 3, 0, 0), (43, .invokevirtual 59, 60, 0), (46, .ifCond .ne 7, 53, 0), (49, .iconst 1, 0, 0), (50, .goto 4, 54, 0), (53, .iconst 0, 0, 0), (54, .ireturn, 0, 0)]
def mt_62_0 : List (Nat × Instr × Nat × Nat) := [(0, .iconst 0, 0, 0), (1, .istore_n 3, 0, 0), (2, .iload_n 3, 0, 0), (3, .bipush 8, 0, 0), (5, .if_icmp .ge 31, 36, 0), (8, .aload_n 0, 0, 0), (9, .getfield 41, 4, 14), (12, .sipush 512, 0, 0), (15, .iload_n 3, 0, 0), (16, .iadd, 0, 0), (17, .iload_n 3, 0, 0), (18, .iload_n 1, 0, 0), (19, .if_icmp .ne 8, 27, 0), (22, .bipush 64, 0, 0), (24, .goto 5, 29, 0), (27, .bipush 99, 0, 0), (29, .iastore, 0, 0), (30, .iinc 3 1, 0, 0), (33, .goto (-31), 2, 0), (36, .bipush 63, 0, 0), (38, .istore_n 3, 0, 0), (39, .iload_n 3, 0, 0), (40, .iload_n 2, 0, 0), (41, .if_icmp .lt 120, 161, 0), (44, .iconst 0, 0, 0), (45, .istore 4, 0, 0), (47, .iload 4, 0, 0), (49, .bipush 8, 0, 0), (51, .if_icmp .ge 104, 155, 0), (54, .iload 4, 0, 0), (56, .iload_n 1, 0, 0), (57, .if_icmp .ne 7, 64, 0), (60, .iload_n 3, 0, 0), (61, .goto 5, 66, 0), (64, .bipush 99, 0, 0), (66, .istore 5, 0, 0), (68, .iconst 0, 0, 0), (69, .istore 6, 0, 0), (71, .iload 6, 0, 0), (73, .bipush 8, 0, 0), (75, .if_icmp .ge 60, 135, 0), (78, .iload 4, 0, 0), (80, .iload_n 1, 0, 0), (81, .if_icmp .eq 54, 135, 0), (84, .aload_n 0, 0, 0), (85, .getfield 41, 4, 14), (88, .bipush 8, 0, 0), (90, .iload_n 3, 0, 0), (91, .imul, 0, 0), (92, .bipush 8, 0, 0), (94, .iadd, 0, 0), (95, .iload 6, 0, 0), (97, .iadd, 0, 0), (98, .iaload, 0, 0), (99, .istore 7, 0, 0), (101, .iload 7, 0, 0), (103, .iload 5, 0, 0), (105, .if_icmp .ge 20, 125, 0), (108, .aload_n 0, 0, 0), (109, .iload_n 3, 0, 0)]
def mt_62_1 : List (Nat × Instr × Nat × Nat) := [(110, .iload 4, 0, 0), (112, .iload 6, 0, 0), (114, .invokevirtual 67, 61, 0), (117, .ifCond .eq 8, 125, 0), (120, .iload 7, 0, 0), (122, .goto 5, 127, 0), (125, .iload 5, 0, 0), (127, .istore 5, 0, 0), (129, .iinc 6 1, 0, 0), (132, .goto (-61), 71, 0), (135, .aload_n 0, 0, 0), (136, .getfield 41, 4, 14), (139, .bipush 8, 0, 0), (141, .iload_n 3, 0, 0), (142, .imul, 0, 0), (143, .iload 4, 0, 0), (145, .iadd, 0, 0), (146, .iload 5, 0, 0), (148, .iastore, 0, 0), (149, .iinc 4 1, 0, 0), (152, .goto (-105), 47, 0), (155, .iinc 3 (-1), 0, 0), (158, .goto (-119), 39, 0), (161, .return_, 0, 0)]
def mt_62 : List (Nat × Instr × Nat × Nat) := mt_62_0 ++ (mt_62_1)
def mt_63 : List (Nat × Instr × Nat × Nat) := [(0, .aload_n 0, 0, 0), (1, .iload_n 2, 0, 0), (2, .iload_n 3, 0, 0), (3, .invokevirtual 70, 62, 0), (6, .aload_n 0, 0, 0), (7, .getfield 41, 4, 14), (10, .bipush 8, 0, 0), (12, .iload_n 3, 0, 0), (13, .imul, 0, 0), (14, .iload_n 1, 0, 0), (15, .iadd, 0, 0), (16, .iaload, 0, 0), (17, .istore 4, 0, 0), (19, .iload 4, 0, 0), (21, .bipush 99, 0, 0), (23, .if_icmp .ne 7, 30, 0), (26, .iconst (-1), 0, 0), (27, .goto 5, 32, 0), (30, .iload 4, 0, 0), (32, .ireturn, 0, 0)]
def mt_64_0 : List (Nat × Instr × Nat × Nat) := [(0, .aload_n 0, 0, 0), (1, .getfield 41, 4, 14), (4, .bipush 8, 0, 0), (6, .iload_n 3, 0, 0), (7, .imul, 0, 0), (8, .iload_n 2, 0, 0), (9, .iadd, 0, 0), (10, .iaload, 0, 0), (11, .istore 4, 0, 0), (13, .iload_n 2, 0, 0), (14, .istore 5, 0, 0), (16, .aload_n 0, 0, 0), (17, .getfield 35, 4, 12), (20, .bipush 65, 0, 0), (22, .iload_n 1, 0, 0), (23, .imul, 0, 0), (24, .iload_n 3, 0, 0), (25, .iadd, 0, 0), (26, .iload 5, 0, 0), (28, .iastore, 0, 0), (29, .iload_n 3, 0, 0), (30, .istore 6, 0, 0), (32, .iload 6, 0, 0), (34, .iload 4, 0, 0), (36, .if_icmp .ge 90, 126, 0), (39, .iconst (-1), 0, 0), (40, .istore 7, 0, 0), (42, .bipush 7, 0, 0), (44, .istore 8, 0, 0), (46, .iload 8, 0, 0), (48, .ifCond .lt 52, 100, 0), (51, .aload_n 0, 0, 0), (52, .getfield 41, 4, 14), (55, .bipush 8, 0, 0), (57, .iload 6, 0, 0), (59, .imul, 0, 0), (60, .bipush 8, 0, 0), (62, .iadd, 0, 0), (63, .iload 8, 0, 0), (65, .iadd, 0, 0), (66, .iaload, 0, 0), (67, .iload 4, 0, 0), (69, .if_icmp .ne 21, 90, 0), (72, .aload_n 0, 0, 0), (73, .iload 6, 0, 0), (75, .iload 5, 0, 0), (77, .iload 8, 0, 0), (79, .invokevirtual 67, 61, 0), (82, .ifCond .eq 8, 90, 0), (85, .iload 8, 0, 0), (87, .goto 5, 92, 0), (90, .iload 7, 0, 0), (92, .istore 7, 0, 0), (94, .iinc 8 (-1), 0, 0), (97, .goto (-51), 46, 0), (100, .iload 7, 0, 0), (102, .istore 5, 0, 0), (104, .aload_n 0, 0, 0), (105, .getfield 35, 4, 12), (108, .bipush 65, 0, 0)]
def mt_64_1 : List (Nat × Instr × Nat × Nat) := [(110, .iload_n 1, 0, 0), (111, .imul, 0, 0), (112, .iload 6, 0, 0), (114, .iadd, 0, 0), (115, .iconst 1, 0, 0), (116, .iadd, 0, 0), (117, .iload 5, 0, 0), (119, .iastore, 0, 0), (120, .iinc 6 1, 0, 0), (123, .goto (-91), 32, 0), (126, .aload_n 0, 0, 0), (127, .getfield 32, 4, 11), (130, .iload_n 1, 0, 0), (131, .iload 4, 0, 0), (133, .iastore, 0, 0), (134, .return_, 0, 0)]
def mt_64 : List (Nat × Instr × Nat × Nat) := mt_64_0 ++ (mt_64_1)
def mt_65 : List (Nat × Instr × Nat × Nat) := [(0, .aload_n 0, 0, 0), (1, .iload_n 1, 0, 0), (2, .ifCond .lt 18, 20, 0), (5, .iload_n 1, 0, 0), (6, .bipush 7, 0, 0), (8, .if_icmp .gt 12, 20, 0), (11, .iload_n 2, 0, 0), (12, .ifCond .lt 8, 20, 0), (15, .iload_n 2, 0, 0), (16, .iconst 4, 0, 0), (17, .if_icmp .le 7, 24, 0), (20, .iconst 1, 0, 0), (21, .goto 24, 45, 0), (24, .aload_n 0, 0, 0), (25, .getfield 7, 4, 3), (28, .iload_n 1, 0, 0), (29, .iaload, 0, 0), (30, .ifCond .ge 10, 40, 0), (33, .aload_n 0, 0, 0), (34, .getfield 74, 4, 2), (37, .ifCond .le 7, 44, 0), (40, .iconst 2, 0, 0), (41, .goto 4, 45, 0), (44, .iconst 0, 0, 0), (45, .putfield 44, 4, 0), (48, .aload_n 0, 0, 0), (49, .getfield 44, 4, 0), (52, .ifCond .le 5, 57, 0), (55, .iconst 0, 0, 0), (56, .ireturn, 0, 0), (57, .aload_n 0, 0, 0), (58, .getfield 7, 4, 3), (61, .iload_n 1, 0, 0), (62, .iload_n 2, 0, 0), (63, .iastore, 0, 0), (64, .iconst 0, 0, 0), (65, .istore_n 3, 0, 0), (66, .iconst 0, 0, 0), (67, .istore 4, 0, 0), (69, .iload 4, 0, 0), (71, .bipush 8, 0, 0), (73, .if_icmp .ge 27, 100, 0), (76, .aload_n 0, 0, 0), (77, .getfield 7, 4, 3), (80, .iload 4, 0, 0), (82, .iaload, 0, 0), (83, .ifCond .lt 9, 92, 0), (86, .iload_n 3, 0, 0), (87, .iconst 1, 0, 0), (88, .iadd, 0, 0), (89, .goto 4, 93, 0), (92, .iload_n 3, 0, 0), (93, .istore_n 3, 0, 0), (94, .iinc 4 1, 0, 0), (97, .goto (-28), 69, 0), (100, .iload_n 3, 0, 0), (101, .ireturn, 0, 0)]
def mt_66_0 : List (Nat × Instr × Nat × Nat) := [(0, .aload_n 0, 0, 0), (1, .aload_n 0, 0, 0), (2, .iload_n 1, 0, 0), (3, .iload_n 2, 0, 0), (4, .invokevirtual 77, 55, 0), (7, .ifCond .ne 24, 31, 0), (10, .iload_n 3, 0, 0), (11, .aload_n 0, 0, 0), (12, .getfield 81, 4, 1), (15, .if_icmp .lt 16, 31, 0), (18, .iload_n 3, 0, 0), (19, .iload 4, 0, 0), (21, .if_icmp .ge 10, 31, 0), (24, .iload 4, 0, 0), (26, .bipush 64, 0, 0), (28, .if_icmp .le 7, 35, 0), (31, .iconst 1, 0, 0), (32, .goto 17, 49, 0), (35, .aload_n 0, 0, 0), (36, .getfield 74, 4, 2), (39, .bipush 24, 0, 0), (41, .if_icmp .ne 7, 48, 0), (44, .iconst 2, 0, 0), (45, .goto 4, 49, 0), (48, .iconst 0, 0, 0), (49, .putfield 44, 4, 0), (52, .iload_n 3, 0, 0), (53, .istore 5, 0, 0), (55, .iload 5, 0, 0), (57, .iload 4, 0, 0), (59, .if_icmp .ge 36, 95, 0), (62, .aload_n 0, 0, 0), (63, .getfield 44, 4, 0), (66, .ifCond .ne 29, 95, 0), (69, .aload_n 0, 0, 0), (70, .aload_n 0, 0, 0), (71, .iload_n 1, 0, 0), (72, .iload_n 2, 0, 0), (73, .iload 5, 0, 0), (75, .invokevirtual 63, 57, 0), (78, .ifCond .eq 7, 85, 0), (81, .iconst 2, 0, 0), (82, .goto 4, 86, 0), (85, .iconst 0, 0, 0), (86, .putfield 44, 4, 0), (89, .iinc 5 1, 0, 0), (92, .goto (-37), 55, 0), (95, .aload_n 0, 0, 0), (96, .getfield 44, 4, 0), (99, .ifCond .le 5, 104, 0), (102, .iconst 0, 0, 0), (103, .ireturn, 0, 0), (104, .iload_n 3, 0, 0), (105, .istore 5, 0, 0), (107, .iload 5, 0, 0), (109, .iload 4, 0, 0), (111, .if_icmp .ge 18, 129, 0), (114, .aload_n 0, 0, 0), (115, .iload_n 1, 0, 0), (116, .iload_n 2, 0, 0)]
def mt_66_1 : List (Nat × Instr × Nat × Nat) := [(117, .iload 5, 0, 0), (119, .iconst 1, 0, 0), (120, .invokevirtual 84, 58, 0), (123, .iinc 5 1, 0, 0), (126, .goto (-19), 107, 0), (129, .aload_n 0, 0, 0), (130, .dup, 0, 0), (131, .getfield 74, 4, 2), (134, .iconst 1, 0, 0), (135, .iadd, 0, 0), (136, .putfield 74, 4, 2), (139, .aload_n 0, 0, 0), (140, .getfield 74, 4, 2), (143, .ireturn, 0, 0)]
def mt_66 : List (Nat × Instr × Nat × Nat) := mt_66_0 ++ (mt_66_1)
def mt_67 : List (Nat × Instr × Nat × Nat) := [(0, .aload_n 0, 0, 0), (1, .iconst 0, 0, 0), (2, .putfield 44, 4, 0), (5, .aload_n 0, 0, 0), (6, .getfield 81, 4, 1), (9, .ireturn, 0, 0)]
def mt_68 : List (Nat × Instr × Nat × Nat) := [(0, .aload_n 0, 0, 0), (1, .iload_n 1, 0, 0), (2, .iload_n 2, 0, 0), (3, .invokevirtual 77, 55, 0), (6, .ifCond .ne 17, 23, 0), (9, .iload_n 3, 0, 0), (10, .aload_n 0, 0, 0), (11, .getfield 81, 4, 1), (14, .if_icmp .lt 9, 23, 0), (17, .iload_n 3, 0, 0), (18, .bipush 64, 0, 0), (20, .if_icmp .lt 7, 27, 0), (23, .iconst 1, 0, 0), (24, .goto 17, 41, 0), (27, .aload_n 0, 0, 0), (28, .getfield 52, 4, 5), (31, .bipush 32, 0, 0), (33, .if_icmp .ne 7, 40, 0), (36, .iconst 2, 0, 0), (37, .goto 4, 41, 0), (40, .iconst 0, 0, 0), (41, .ireturn, 0, 0)]
def mt_69_0 : List (Nat × Instr × Nat × Nat) := [(0, .aload_n 0, 0, 0), (1, .aload_n 0, 0, 0), (2, .iload_n 1, 0, 0), (3, .iload_n 2, 0, 0), (4, .iload_n 3, 0, 0), (5, .invokevirtual 88, 68, 0), (8, .putfield 44, 4, 0), (11, .aload_n 0, 0, 0), (12, .getfield 44, 4, 0), (15, .ifCond .le 5, 20, 0), (18, .iconst 0, 0, 0), (19, .ireturn, 0, 0), (20, .aload_n 0, 0, 0), (21, .iload_n 1, 0, 0), (22, .iload_n 2, 0, 0), (23, .iload_n 3, 0, 0), (24, .invokevirtual 91, 63, 0), (27, .iconst (-1), 0, 0), (28, .if_icmp .ne 5, 33, 0), (31, .iconst (-1), 0, 0), (32, .ireturn, 0, 0), (33, .aload_n 0, 0, 0), (34, .getfield 52, 4, 5), (37, .istore 4, 0, 0), (39, .aload_n 0, 0, 0), (40, .iload 4, 0, 0), (42, .iload_n 1, 0, 0), (43, .iload_n 3, 0, 0), (44, .invokevirtual 94, 64, 0), (47, .aload_n 0, 0, 0), (48, .getfield 20, 4, 7), (51, .iload 4, 0, 0), (53, .iload_n 1, 0, 0), (54, .iastore, 0, 0), (55, .aload_n 0, 0, 0), (56, .getfield 17, 4, 6), (59, .iload 4, 0, 0), (61, .iload_n 2, 0, 0), (62, .iastore, 0, 0), (63, .aload_n 0, 0, 0), (64, .getfield 23, 4, 8), (67, .iload 4, 0, 0), (69, .iload_n 3, 0, 0), (70, .iastore, 0, 0), (71, .aload_n 0, 0, 0), (72, .getfield 29, 4, 10), (75, .iload 4, 0, 0), (77, .iload_n 3, 0, 0), (78, .iastore, 0, 0), (79, .aload_n 0, 0, 0), (80, .getfield 26, 4, 9), (83, .iload 4, 0, 0), (85, .iconst 0, 0, 0), (86, .iastore, 0, 0), (87, .aload_n 0, 0, 0), (88, .dup, 0, 0), (89, .getfield 52, 4, 5), (92, .iconst 1, 0, 0), (93, .iadd, 0, 0), (94, .putfield 52, 4, 5)]
def mt_69_1 : List (Nat × Instr × Nat × Nat) := [(97, .iload 4, 0, 0), (99, .ireturn, 0, 0)]
def mt_69 : List (Nat × Instr × Nat × Nat) := mt_69_0 ++ (mt_69_1)
def mt_70 : List (Nat × Instr × Nat × Nat) := [(0, .aload_n 0, 0, 0), (1, .aload_n 0, 0, 0), (2, .iload_n 1, 0, 0), (3, .iload_n 2, 0, 0), (4, .iload_n 3, 0, 0), (5, .invokevirtual 88, 68, 0), (8, .putfield 44, 4, 0), (11, .aload_n 0, 0, 0), (12, .getfield 44, 4, 0), (15, .ifCond .le 7, 22, 0), (18, .iconst 0, 0, 0), (19, .goto 10, 29, 0), (22, .aload_n 0, 0, 0), (23, .iload_n 1, 0, 0), (24, .iload_n 2, 0, 0), (25, .iload_n 3, 0, 0), (26, .invokevirtual 91, 63, 0), (29, .ireturn, 0, 0)]
def mt_71 : List (Nat × Instr × Nat × Nat) := [(0, .iload_n 1, 0, 0), (1, .ifCond .lt 11, 12, 0), (4, .iload_n 1, 0, 0), (5, .aload_n 0, 0, 0), (6, .getfield 52, 4, 5), (9, .if_icmp .lt 7, 16, 0), (12, .iconst 1, 0, 0), (13, .goto 4, 17, 0), (16, .iconst 0, 0, 0), (17, .ireturn, 0, 0)]
def mt_72 : List (Nat × Instr × Nat × Nat) := [(0, .aload_n 0, 0, 0), (1, .iload_n 1, 0, 0), (2, .invokevirtual 98, 71, 0), (5, .ifCond .ne 16, 21, 0), (8, .aload_n 0, 0, 0), (9, .getfield 26, 4, 9), (12, .iload_n 1, 0, 0), (13, .iaload, 0, 0), (14, .ifCond .ne 7, 21, 0), (17, .iconst 1, 0, 0), (18, .goto 4, 22, 0), (21, .iconst 0, 0, 0), (22, .ireturn, 0, 0)]
def mt_73 : List (Nat × Instr × Nat × Nat) := [(0, .aload_n 0, 0, 0), (1, .getfield 32, 4, 11), (4, .iload_n 1, 0, 0), (5, .aload_n 0, 0, 0), (6, .getfield 29, 4, 10), (9, .iload_n 1, 0, 0), (10, .iaload, 0, 0), (11, .aload_n 0, 0, 0), (12, .getfield 81, 4, 1), (15, .if_icmp .le 14, 29, 0), (18, .aload_n 0, 0, 0), (19, .getfield 29, 4, 10), (22, .iload_n 1, 0, 0), (23, .iaload, 0, 0), (24, .iconst 1, 0, 0), (25, .isub, 0, 0), (26, .goto 7, 33, 0), (29, .aload_n 0, 0, 0), (30, .getfield 81, 4, 1), (33, .iastore, 0, 0), (34, .return_, 0, 0)]
def mt_74 : List (Nat × Instr × Nat × Nat) := [(0, .aload_n 0, 0, 0), (1, .aload_n 0, 0, 0), (2, .iload_n 1, 0, 0), (3, .invokevirtual 98, 71, 0), (6, .ifCond .eq 7, 13, 0), (9, .iconst 1, 0, 0), (10, .goto 16, 26, 0), (13, .aload_n 0, 0, 0), (14, .iload_n 1, 0, 0), (15, .invokevirtual 101, 72, 0), (18, .ifCond .ne 7, 25, 0), (21, .iconst 2, 0, 0), (22, .goto 4, 26, 0), (25, .iconst 0, 0, 0), (26, .putfield 44, 4, 0), (29, .aload_n 0, 0, 0), (30, .getfield 44, 4, 0), (33, .ifCond .le 5, 38, 0), (36, .iconst 0, 0, 0), (37, .ireturn, 0, 0), (38, .aload_n 0, 0, 0), (39, .getfield 32, 4, 11), (42, .iload_n 1, 0, 0), (43, .iaload, 0, 0), (44, .aload_n 0, 0, 0), (45, .getfield 29, 4, 10), (48, .iload_n 1, 0, 0), (49, .iaload, 0, 0), (50, .aload_n 0, 0, 0), (51, .getfield 81, 4, 1), (54, .if_icmp .le 12, 66, 0), (57, .aload_n 0, 0, 0), (58, .getfield 29, 4, 10), (61, .iload_n 1, 0, 0), (62, .iaload, 0, 0), (63, .goto 7, 70, 0), (66, .aload_n 0, 0, 0), (67, .getfield 81, 4, 1), (70, .isub, 0, 0), (71, .istore_n 2, 0, 0), (72, .aload_n 0, 0, 0), (73, .iload_n 1, 0, 0), (74, .invokevirtual 104, 73, 0), (77, .aload_n 0, 0, 0), (78, .getfield 26, 4, 9), (81, .iload_n 1, 0, 0), (82, .iconst 4, 0, 0), (83, .iastore, 0, 0), (84, .iload_n 2, 0, 0), (85, .ireturn, 0, 0)]
def mt_75_0 : List (Nat × Instr × Nat × Nat) := [(0, .aload_n 0, 0, 0), (1, .aload_n 0, 0, 0), (2, .iload_n 1, 0, 0), (3, .iload_n 2, 0, 0), (4, .invokevirtual 77, 55, 0), (7, .ifCond .eq 7, 14, 0), (10, .iconst 1, 0, 0), (11, .goto 4, 15, 0), (14, .iconst 0, 0, 0), (15, .putfield 44, 4, 0), (18, .aload_n 0, 0, 0), (19, .getfield 44, 4, 0), (22, .ifCond .le 5, 27, 0), (25, .iconst 0, 0, 0), (26, .ireturn, 0, 0), (27, .iconst 0, 0, 0), (28, .istore_n 3, 0, 0), (29, .iload_n 3, 0, 0), (30, .aload_n 0, 0, 0), (31, .getfield 52, 4, 5), (34, .if_icmp .ge 88, 122, 0), (37, .aload_n 0, 0, 0), (38, .getfield 38, 4, 13), (41, .iload_n 3, 0, 0), (42, .iconst 0, 0, 0), (43, .bastore, 0, 0), (44, .aload_n 0, 0, 0), (45, .getfield 81, 4, 1), (48, .istore 4, 0, 0), (50, .iload 4, 0, 0), (52, .bipush 64, 0, 0), (54, .if_icmp .ge 62, 116, 0), (57, .aload_n 0, 0, 0), (58, .getfield 26, 4, 9), (61, .iload_n 3, 0, 0), (62, .iaload, 0, 0), (63, .ifCond .ne 53, 116, 0), (66, .aload_n 0, 0, 0), (67, .getfield 38, 4, 13), (70, .iload_n 3, 0, 0), (71, .aload_n 0, 0, 0), (72, .getfield 38, 4, 13), (75, .iload_n 3, 0, 0), (76, .baload, 0, 0), (77, .ifCond .ne 27, 104, 0), (80, .aload_n 0, 0, 0), (81, .iload_n 3, 0, 0), (82, .iload 4, 0, 0), (84, .iload_n 1, 0, 0), (85, .iload_n 2, 0, 0), (86, .invokevirtual 55, 59, 0), (89, .ifCond .ne 15, 104, 0), (92, .aload_n 0, 0, 0), (93, .iload_n 3, 0, 0), (94, .iload 4, 0, 0), (96, .iload_n 2, 0, 0), (97, .iload_n 1, 0, 0), (98, .invokevirtual 55, 59, 0), (101, .ifCond .eq 7, 108, 0), (104, .iconst 1, 0, 0)]
def mt_75_1 : List (Nat × Instr × Nat × Nat) := [(105, .goto 4, 109, 0), (108, .iconst 0, 0, 0), (109, .bastore, 0, 0), (110, .iinc 4 1, 0, 0), (113, .goto (-63), 50, 0), (116, .iinc 3 1, 0, 0), (119, .goto (-90), 29, 0), (122, .aload_n 0, 0, 0), (123, .getfield 81, 4, 1), (126, .istore_n 3, 0, 0), (127, .iload_n 3, 0, 0), (128, .bipush 64, 0, 0), (130, .if_icmp .ge 17, 147, 0), (133, .aload_n 0, 0, 0), (134, .iload_n 1, 0, 0), (135, .iload_n 2, 0, 0), (136, .iload_n 3, 0, 0), (137, .iconst 0, 0, 0), (138, .invokevirtual 84, 58, 0), (141, .iinc 3 1, 0, 0), (144, .goto (-17), 127, 0), (147, .iconst 0, 0, 0), (148, .istore_n 3, 0, 0), (149, .iload_n 3, 0, 0), (150, .aload_n 0, 0, 0), (151, .getfield 52, 4, 5), (154, .if_icmp .ge 23, 177, 0), (157, .aload_n 0, 0, 0), (158, .getfield 38, 4, 13), (161, .iload_n 3, 0, 0), (162, .baload, 0, 0), (163, .ifCond .eq 8, 171, 0), (166, .aload_n 0, 0, 0), (167, .iload_n 3, 0, 0), (168, .invokevirtual 104, 73, 0), (171, .iinc 3 1, 0, 0), (174, .goto (-25), 149, 0), (177, .iconst 0, 0, 0), (178, .istore_n 3, 0, 0), (179, .iconst 0, 0, 0), (180, .istore 4, 0, 0), (182, .iload 4, 0, 0), (184, .aload_n 0, 0, 0), (185, .getfield 52, 4, 5), (188, .if_icmp .ge 136, 324, 0), (191, .aload_n 0, 0, 0), (192, .getfield 38, 4, 13), (195, .iload 4, 0, 0), (197, .baload, 0, 0), (198, .ifCond .eq 120, 318, 0), (201, .aload_n 0, 0, 0), (202, .getfield 23, 4, 8), (205, .iload 4, 0, 0), (207, .iaload, 0, 0), (208, .aload_n 0, 0, 0), (209, .getfield 81, 4, 1), (212, .if_icmp .gt 7, 219, 0), (215, .iconst 1, 0, 0), (216, .goto 4, 220, 0), (219, .iconst 0, 0, 0)]
def mt_75_2 : List (Nat × Instr × Nat × Nat) := [(220, .istore 5, 0, 0), (222, .iload 5, 0, 0), (224, .ifCond .eq 10, 234, 0), (227, .aload_n 0, 0, 0), (228, .getfield 81, 4, 1), (231, .goto 10, 241, 0), (234, .aload_n 0, 0, 0), (235, .getfield 23, 4, 8), (238, .iload 4, 0, 0), (240, .iaload, 0, 0), (241, .istore 6, 0, 0), (243, .iload 5, 0, 0), (245, .ifCond .eq 21, 266, 0), (248, .aload_n 0, 0, 0), (249, .getfield 35, 4, 12), (252, .bipush 65, 0, 0), (254, .iload 4, 0, 0), (256, .imul, 0, 0), (257, .aload_n 0, 0, 0), (258, .getfield 81, 4, 1), (261, .iadd, 0, 0), (262, .iaload, 0, 0), (263, .goto 10, 273, 0), (266, .aload_n 0, 0, 0), (267, .getfield 20, 4, 7), (270, .iload 4, 0, 0), (272, .iaload, 0, 0), (273, .istore 7, 0, 0), (275, .aload_n 0, 0, 0), (276, .iload 7, 0, 0), (278, .aload_n 0, 0, 0), (279, .getfield 17, 4, 6), (282, .iload 4, 0, 0), (284, .iaload, 0, 0), (285, .iload 6, 0, 0), (287, .invokevirtual 91, 63, 0), (290, .iconst (-1), 0, 0), (291, .if_icmp .ne 17, 308, 0), (294, .aload_n 0, 0, 0), (295, .getfield 26, 4, 9), (298, .iload 4, 0, 0), (300, .iconst 5, 0, 0), (301, .iastore, 0, 0), (302, .iinc 3 1, 0, 0), (305, .goto 13, 318, 0), (308, .aload_n 0, 0, 0), (309, .iload 4, 0, 0), (311, .iload 7, 0, 0), (313, .iload 6, 0, 0), (315, .invokevirtual 94, 64, 0), (318, .iinc 4 1, 0, 0), (321, .goto (-139), 182, 0), (324, .iload_n 3, 0, 0), (325, .ireturn, 0, 0)]
def mt_75 : List (Nat × Instr × Nat × Nat) := mt_75_0 ++ (mt_75_1 ++ (mt_75_2))
def mt_76 : List (Nat × Instr × Nat × Nat) := [(0, .aload_n 0, 0, 0), (1, .aload_n 0, 0, 0), (2, .getfield 81, 4, 1), (5, .bipush 64, 0, 0), (7, .if_icmp .ne 7, 14, 0), (10, .iconst 1, 0, 0), (11, .goto 4, 15, 0), (14, .iconst 0, 0, 0), (15, .putfield 44, 4, 0), (18, .aload_n 0, 0, 0), (19, .getfield 44, 4, 0), (22, .ifCond .le 5, 27, 0), (25, .iconst 0, 0, 0), (26, .ireturn, 0, 0), (27, .aload_n 0, 0, 0), (28, .dup, 0, 0), (29, .getfield 81, 4, 1), (32, .iconst 1, 0, 0), (33, .iadd, 0, 0), (34, .putfield 81, 4, 1), (37, .iconst 0, 0, 0), (38, .istore_n 1, 0, 0), (39, .iconst 0, 0, 0), (40, .istore_n 2, 0, 0), (41, .iload_n 2, 0, 0), (42, .aload_n 0, 0, 0), (43, .getfield 52, 4, 5), (46, .if_icmp .ge 41, 87, 0), (49, .aload_n 0, 0, 0), (50, .getfield 26, 4, 9), (53, .iload_n 2, 0, 0), (54, .iaload, 0, 0), (55, .ifCond .ne 26, 81, 0), (58, .aload_n 0, 0, 0), (59, .getfield 32, 4, 11), (62, .iload_n 2, 0, 0), (63, .iaload, 0, 0), (64, .aload_n 0, 0, 0), (65, .getfield 81, 4, 1), (68, .if_icmp .ne 13, 81, 0), (71, .aload_n 0, 0, 0), (72, .getfield 26, 4, 9), (75, .iload_n 2, 0, 0), (76, .iconst 3, 0, 0), (77, .iastore, 0, 0), (78, .iinc 1 1, 0, 0), (81, .iinc 2 1, 0, 0), (84, .goto (-43), 41, 0), (87, .iload_n 1, 0, 0), (88, .ireturn, 0, 0)]
def mt_77 : List (Nat × Instr × Nat × Nat) := [(0, .aload_n 0, 0, 0), (1, .iconst 0, 0, 0), (2, .putfield 44, 4, 0), (5, .aload_n 0, 0, 0), (6, .iload_n 1, 0, 0), (7, .invokevirtual 98, 71, 0), (10, .ifCond .eq 7, 17, 0), (13, .iconst 0, 0, 0), (14, .goto 39, 53, 0), (17, .aload_n 0, 0, 0), (18, .getfield 26, 4, 9), (21, .iload_n 1, 0, 0), (22, .iaload, 0, 0), (23, .ifCond .le 12, 35, 0), (26, .aload_n 0, 0, 0), (27, .getfield 26, 4, 9), (30, .iload_n 1, 0, 0), (31, .iaload, 0, 0), (32, .goto 21, 53, 0), (35, .aload_n 0, 0, 0), (36, .getfield 81, 4, 1), (39, .aload_n 0, 0, 0), (40, .getfield 23, 4, 8), (43, .iload_n 1, 0, 0), (44, .iaload, 0, 0), (45, .if_icmp .ge 7, 52, 0), (48, .iconst 1, 0, 0), (49, .goto 4, 53, 0), (52, .iconst 2, 0, 0), (53, .ireturn, 0, 0)]
def mt_78 : List (Nat × Instr × Nat × Nat) := [(0, .aload_n 0, 0, 0), (1, .iconst 0, 0, 0), (2, .putfield 44, 4, 0), (5, .aload_n 0, 0, 0), (6, .iload_n 1, 0, 0), (7, .invokevirtual 101, 72, 0), (10, .ifCond .eq 33, 43, 0), (13, .aload_n 0, 0, 0), (14, .getfield 81, 4, 1), (17, .aload_n 0, 0, 0), (18, .getfield 23, 4, 8), (21, .iload_n 1, 0, 0), (22, .iaload, 0, 0), (23, .if_icmp .lt 20, 43, 0), (26, .aload_n 0, 0, 0), (27, .getfield 35, 4, 12), (30, .bipush 65, 0, 0), (32, .iload_n 1, 0, 0), (33, .imul, 0, 0), (34, .aload_n 0, 0, 0), (35, .getfield 81, 4, 1), (38, .iadd, 0, 0), (39, .iaload, 0, 0), (40, .goto 4, 44, 0), (43, .iconst (-1), 0, 0), (44, .ireturn, 0, 0)]
def mt_79 : List (Nat × Instr × Nat × Nat) := [(0, .aload_n 0, 0, 0), (1, .iconst 0, 0, 0), (2, .putfield 44, 4, 0), (5, .aload_n 0, 0, 0), (6, .iload_n 1, 0, 0), (7, .invokevirtual 101, 72, 0), (10, .ifCond .ne 21, 31, 0), (13, .aload_n 0, 0, 0), (14, .iload_n 1, 0, 0), (15, .invokevirtual 98, 71, 0), (18, .ifCond .ne 22, 40, 0), (21, .aload_n 0, 0, 0), (22, .getfield 26, 4, 9), (25, .iload_n 1, 0, 0), (26, .iaload, 0, 0), (27, .iconst 3, 0, 0), (28, .if_icmp .ne 12, 40, 0), (31, .aload_n 0, 0, 0), (32, .getfield 32, 4, 11), (35, .iload_n 1, 0, 0), (36, .iaload, 0, 0), (37, .goto 4, 41, 0), (40, .iconst (-1), 0, 0), (41, .ireturn, 0, 0)]
def mt_80 : List (Nat × Instr × Nat × Nat) := [(0, .aload_n 0, 0, 0), (1, .iconst 0, 0, 0), (2, .putfield 44, 4, 0), (5, .aload_n 0, 0, 0), (6, .iload_n 1, 0, 0), (7, .invokevirtual 98, 71, 0), (10, .ifCond .ne 23, 33, 0), (13, .iload_n 2, 0, 0), (14, .aload_n 0, 0, 0), (15, .getfield 29, 4, 10), (18, .iload_n 1, 0, 0), (19, .iaload, 0, 0), (20, .if_icmp .lt 13, 33, 0), (23, .iload_n 2, 0, 0), (24, .aload_n 0, 0, 0), (25, .getfield 32, 4, 11), (28, .iload_n 1, 0, 0), (29, .iaload, 0, 0), (30, .if_icmp .le 7, 37, 0), (33, .iconst (-1), 0, 0), (34, .goto 14, 48, 0), (37, .aload_n 0, 0, 0), (38, .getfield 35, 4, 12), (41, .bipush 65, 0, 0), (43, .iload_n 1, 0, 0), (44, .imul, 0, 0), (45, .iload_n 2, 0, 0), (46, .iadd, 0, 0), (47, .iaload, 0, 0), (48, .ireturn, 0, 0)]
def mt_81 : List (Nat × Instr × Nat × Nat) := [(0, .aload_n 0, 0, 0), (1, .iconst 0, 0, 0), (2, .putfield 44, 4, 0), (5, .aload_n 0, 0, 0), (6, .iload_n 1, 0, 0), (7, .iload_n 2, 0, 0), (8, .invokevirtual 77, 55, 0), (11, .ifCond .ne 10, 21, 0), (14, .iload_n 3, 0, 0), (15, .invokestatic 108, 56, 0), (18, .ifCond .eq 7, 25, 0), (21, .iconst 0, 0, 0), (22, .goto 10, 32, 0), (25, .aload_n 0, 0, 0), (26, .iload_n 3, 0, 0), (27, .iload_n 1, 0, 0), (28, .iload_n 2, 0, 0), (29, .invokevirtual 59, 60, 0), (32, .ireturn, 0, 0)]
def mt_82 : List (Nat × Instr × Nat × Nat) := [(0, .aload_n 0, 0, 0), (1, .iconst 0, 0, 0), (2, .putfield 44, 4, 0), (5, .aload_n 0, 0, 0), (6, .iload_n 1, 0, 0), (7, .invokevirtual 48, 54, 0), (10, .ifCond .ne 10, 20, 0), (13, .iload_n 2, 0, 0), (14, .invokestatic 108, 56, 0), (17, .ifCond .eq 7, 24, 0), (20, .iconst 0, 0, 0), (21, .goto 10, 31, 0), (24, .aload_n 0, 0, 0), (25, .iload_n 2, 0, 0), (26, .iload_n 1, 0, 0), (27, .iload_n 1, 0, 0), (28, .invokevirtual 59, 60, 0), (31, .ireturn, 0, 0)]
def mt_83 : List (Nat × Instr × Nat × Nat) := [(0, .aload_n 0, 0, 0), (1, .iconst 0, 0, 0), (2, .putfield 44, 4, 0), (5, .aload_n 0, 0, 0), (6, .iload_n 1, 0, 0), (7, .iload_n 2, 0, 0), (8, .invokevirtual 77, 55, 0), (11, .ifCond .ne 24, 35, 0), (14, .iload_n 3, 0, 0), (15, .invokestatic 108, 56, 0), (18, .ifCond .ne 17, 35, 0), (21, .aload_n 0, 0, 0), (22, .iload_n 1, 0, 0), (23, .iload_n 2, 0, 0), (24, .iload_n 3, 0, 0), (25, .invokevirtual 63, 57, 0), (28, .ifCond .eq 7, 35, 0), (31, .iconst 1, 0, 0), (32, .goto 4, 36, 0), (35, .iconst 0, 0, 0), (36, .ireturn, 0, 0)]
def mt_84 : List (Nat × Instr × Nat × Nat) := [(0, .aload_n 0, 0, 0), (1, .iconst 0, 0, 0), (2, .putfield 44, 4, 0), (5, .aload_n 0, 0, 0), (6, .iload_n 1, 0, 0), (7, .invokevirtual 48, 54, 0), (10, .ifCond .ne 10, 20, 0), (13, .iload_n 2, 0, 0), (14, .invokestatic 108, 56, 0), (17, .ifCond .eq 7, 24, 0), (20, .iconst (-1), 0, 0), (21, .goto 17, 38, 0), (24, .aload_n 0, 0, 0), (25, .getfield 7, 4, 3), (28, .iload_n 1, 0, 0), (29, .iaload, 0, 0), (30, .aload_n 0, 0, 0), (31, .iload_n 2, 0, 0), (32, .iload_n 1, 0, 0), (33, .iload_n 1, 0, 0), (34, .invokevirtual 59, 60, 0), (37, .isub, 0, 0), (38, .ireturn, 0, 0)]
def mt_85 : List (Nat × Instr × Nat × Nat) := [(0, .aload_n 3, 0, 0), (1, .iconst 0, 0, 0), (2, .aload_n 0, 0, 0), (3, .iload_n 1, 0, 0), (4, .iload_n 2, 0, 0), (5, .invokevirtual 7, 27, 0), (8, .i2l, 0, 0), (9, .lastore, 0, 0), (10, .goto 11, 21, 0), (13, .astore 4, 0, 0), (15, .iconst 1, 0, 0), (16, .ireturn, 0, 0), (17, .astore 4, 0, 0), (19, .iconst 2, 0, 0), (20, .ireturn, 0, 0), (21, .iconst 0, 0, 0), (22, .ireturn, 0, 0)]
def mt_86 : List (Nat × Instr × Nat × Nat) := [(0, .aload 5, 0, 0), (2, .iconst 0, 0, 0), (3, .aload_n 0, 0, 0), (4, .iload_n 1, 0, 0), (5, .iload_n 2, 0, 0), (6, .iload_n 3, 0, 0), (7, .iload 4, 0, 0), (9, .invokevirtual 17, 28, 0), (12, .i2l, 0, 0), (13, .lastore, 0, 0), (14, .goto 11, 25, 0), (17, .astore 6, 0, 0), (19, .iconst 1, 0, 0), (20, .ireturn, 0, 0), (21, .astore 6, 0, 0), (23, .iconst 2, 0, 0), (24, .ireturn, 0, 0), (25, .iconst 0, 0, 0), (26, .ireturn, 0, 0)]
def mt_87 : List (Nat × Instr × Nat × Nat) := [(0, .aload 4, 0, 0), (2, .iconst 0, 0, 0), (3, .aload_n 0, 0, 0), (4, .iload_n 1, 0, 0), (5, .iload_n 2, 0, 0), (6, .iload_n 3, 0, 0), (7, .invokevirtual 21, 30, 0), (10, .i2l, 0, 0), (11, .lastore, 0, 0), (12, .goto 11, 23, 0), (15, .astore 5, 0, 0), (17, .iconst 1, 0, 0), (18, .ireturn, 0, 0), (19, .astore 5, 0, 0), (21, .iconst 2, 0, 0), (22, .ireturn, 0, 0), (23, .iconst 0, 0, 0), (24, .ireturn, 0, 0)]
def mt_88 : List (Nat × Instr × Nat × Nat) := [(0, .aload 4, 0, 0), (2, .iconst 0, 0, 0), (3, .aload_n 0, 0, 0), (4, .iload_n 1, 0, 0), (5, .iload_n 2, 0, 0), (6, .iload_n 3, 0, 0), (7, .invokevirtual 25, 31, 0), (10, .i2l, 0, 0), (11, .lastore, 0, 0), (12, .goto 11, 23, 0), (15, .astore 5, 0, 0), (17, .iconst 1, 0, 0), (18, .ireturn, 0, 0), (19, .astore 5, 0, 0), (21, .iconst 2, 0, 0), (22, .ireturn, 0, 0), (23, .iconst 0, 0, 0), (24, .ireturn, 0, 0)]
def mt_89 : List (Nat × Instr × Nat × Nat) := [(0, .aload_n 2, 0, 0), (1, .iconst 0, 0, 0), (2, .aload_n 0, 0, 0), (3, .iload_n 1, 0, 0), (4, .invokevirtual 28, 32, 0), (7, .i2l, 0, 0), (8, .lastore, 0, 0), (9, .goto 9, 18, 0), (12, .astore_n 3, 0, 0), (13, .iconst 1, 0, 0), (14, .ireturn, 0, 0), (15, .astore_n 3, 0, 0), (16, .iconst 2, 0, 0), (17, .ireturn, 0, 0), (18, .iconst 0, 0, 0), (19, .ireturn, 0, 0)]
def mt_90 : List (Nat × Instr × Nat × Nat) := [(0, .aload_n 3, 0, 0), (1, .iconst 0, 0, 0), (2, .aload_n 0, 0, 0), (3, .iload_n 1, 0, 0), (4, .iload_n 2, 0, 0), (5, .invokevirtual 34, 33, 0), (8, .i2l, 0, 0), (9, .lastore, 0, 0), (10, .goto 7, 17, 0), (13, .astore 4, 0, 0), (15, .iconst 1, 0, 0), (16, .ireturn, 0, 0), (17, .iconst 0, 0, 0), (18, .ireturn, 0, 0)]
def mt_91 : List (Nat × Instr × Nat × Nat) := [(0, .aload_n 1, 0, 0), (1, .iconst 0, 0, 0), (2, .aload_n 0, 0, 0), (3, .invokevirtual 37, 34, 0), (6, .i2l, 0, 0), (7, .lastore, 0, 0), (8, .goto 6, 14, 0), (11, .astore_n 2, 0, 0), (12, .iconst 1, 0, 0), (13, .ireturn, 0, 0), (14, .iconst 0, 0, 0), (15, .ireturn, 0, 0)]
def mt_92_0 : List (Nat × Instr × Nat × Nat) := [(0, .new 8, 3, 0), (3, .dup, 0, 0), (4, .invokespecial 41, 26, 0), (7, .astore_n 1, 0, 0), (8, .new 42, 4, 0), (11, .dup, 0, 0), (12, .invokespecial 44, 52, 0), (15, .astore_n 2, 0, 0), (16, .iconst 1, 0, 0), (17, .newarray .long, 0, 0), (19, .astore_n 3, 0, 0), (20, .iconst 0, 0, 0), (21, .istore 4, 0, 0), (23, .iload 4, 0, 0), (25, .aload_n 0, 0, 0), (26, .arraylength, 0, 0), (27, .iconst 5, 0, 0), (28, .isub, 0, 0), (29, .if_icmp .gt 878, 907, 0), (32, .aload_n 0, 0, 0), (33, .iload 4, 0, 0), (35, .iaload, 0, 0), (36, .bipush 15, 0, 0), (38, .iand, 0, 0), (39, .tableswitch 862 0 15 #[77, 145, 237, 250, 330, 410, 466, 534, 578, 603, 628, 653, 690, 739, 776, 825], 901, 0), (116, .aload_n 1, 0, 0), (117, .aload_n 0, 0, 0), (118, .iload 4, 0, 0), (120, .iconst 1, 0, 0), (121, .iadd, 0, 0), (122, .iaload, 0, 0), (123, .aload_n 0, 0, 0), (124, .iload 4, 0, 0), (126, .iconst 2, 0, 0), (127, .iadd, 0, 0), (128, .iaload, 0, 0), (129, .aload_n 3, 0, 0), (130, .invokestatic 45, 85, 0), (133, .istore 5, 0, 0), (135, .aload_n 2, 0, 0), (136, .aload_n 0, 0, 0), (137, .iload 4, 0, 0), (139, .iconst 1, 0, 0), (140, .iadd, 0, 0), (141, .iaload, 0, 0), (142, .aload_n 0, 0, 0), (143, .iload 4, 0, 0), (145, .iconst 2, 0, 0), (146, .iadd, 0, 0), (147, .iaload, 0, 0), (148, .invokevirtual 50, 65, 0), (151, .istore 6, 0, 0), (153, .aload_n 2, 0, 0), (154, .invokevirtual 51, 53, 0), (157, .iload 5, 0, 0), (159, .if_icmp .eq 5, 164, 0), (162, .iconst 0, 0, 0), (163, .ireturn, 0, 0), (164, .iload 5, 0, 0), (166, .ifCond .ne 15, 181, 0)]
def mt_92_1 : List (Nat × Instr × Nat × Nat) := [(169, .aload_n 3, 0, 0), (170, .iconst 0, 0, 0), (171, .laload, 0, 0), (172, .iload 6, 0, 0), (174, .i2l, 0, 0), (175, .lcmp, 0, 0), (176, .ifCond .eq 5, 181, 0), (179, .iconst 0, 0, 0), (180, .ireturn, 0, 0), (181, .goto 720, 901, 0), (184, .aload_n 1, 0, 0), (185, .aload_n 0, 0, 0), (186, .iload 4, 0, 0), (188, .iconst 1, 0, 0), (189, .iadd, 0, 0), (190, .iaload, 0, 0), (191, .aload_n 0, 0, 0), (192, .iload 4, 0, 0), (194, .iconst 2, 0, 0), (195, .iadd, 0, 0), (196, .iaload, 0, 0), (197, .aload_n 0, 0, 0), (198, .iload 4, 0, 0), (200, .iconst 3, 0, 0), (201, .iadd, 0, 0), (202, .iaload, 0, 0), (203, .aload_n 0, 0, 0), (204, .iload 4, 0, 0), (206, .iconst 4, 0, 0), (207, .iadd, 0, 0), (208, .iaload, 0, 0), (209, .aload_n 3, 0, 0), (210, .invokestatic 54, 86, 0), (213, .istore 5, 0, 0), (215, .aload_n 2, 0, 0), (216, .aload_n 0, 0, 0), (217, .iload 4, 0, 0), (219, .iconst 1, 0, 0), (220, .iadd, 0, 0), (221, .iaload, 0, 0), (222, .aload_n 0, 0, 0), (223, .iload 4, 0, 0), (225, .iconst 2, 0, 0), (226, .iadd, 0, 0), (227, .iaload, 0, 0), (228, .aload_n 0, 0, 0), (229, .iload 4, 0, 0), (231, .iconst 3, 0, 0), (232, .iadd, 0, 0), (233, .iaload, 0, 0), (234, .aload_n 0, 0, 0), (235, .iload 4, 0, 0), (237, .iconst 4, 0, 0), (238, .iadd, 0, 0), (239, .iaload, 0, 0), (240, .invokevirtual 57, 66, 0), (243, .istore 6, 0, 0), (245, .aload_n 2, 0, 0), (246, .invokevirtual 51, 53, 0), (249, .iload 5, 0, 0)]
def mt_92_2 : List (Nat × Instr × Nat × Nat) := [(251, .if_icmp .eq 5, 256, 0), (254, .iconst 0, 0, 0), (255, .ireturn, 0, 0), (256, .iload 5, 0, 0), (258, .ifCond .ne 15, 273, 0), (261, .aload_n 3, 0, 0), (262, .iconst 0, 0, 0), (263, .laload, 0, 0), (264, .iload 6, 0, 0), (266, .i2l, 0, 0), (267, .lcmp, 0, 0), (268, .ifCond .eq 5, 273, 0), (271, .iconst 0, 0, 0), (272, .ireturn, 0, 0), (273, .goto 628, 901, 0), (276, .aload_n 1, 0, 0), (277, .invokevirtual 58, 29, 0), (280, .aload_n 2, 0, 0), (281, .invokevirtual 61, 67, 0), (284, .if_icmp .eq 617, 901, 0), (287, .iconst 0, 0, 0), (288, .ireturn, 0, 0), (289, .aload_n 1, 0, 0), (290, .aload_n 0, 0, 0), (291, .iload 4, 0, 0), (293, .iconst 1, 0, 0), (294, .iadd, 0, 0), (295, .iaload, 0, 0), (296, .aload_n 0, 0, 0), (297, .iload 4, 0, 0), (299, .iconst 2, 0, 0), (300, .iadd, 0, 0), (301, .iaload, 0, 0), (302, .aload_n 0, 0, 0), (303, .iload 4, 0, 0), (305, .iconst 3, 0, 0), (306, .iadd, 0, 0), (307, .iaload, 0, 0), (308, .aload_n 3, 0, 0), (309, .invokestatic 62, 87, 0), (312, .istore 5, 0, 0), (314, .aload_n 2, 0, 0), (315, .aload_n 0, 0, 0), (316, .iload 4, 0, 0), (318, .iconst 1, 0, 0), (319, .iadd, 0, 0), (320, .iaload, 0, 0), (321, .aload_n 0, 0, 0), (322, .iload 4, 0, 0), (324, .iconst 2, 0, 0), (325, .iadd, 0, 0), (326, .iaload, 0, 0), (327, .aload_n 0, 0, 0), (328, .iload 4, 0, 0), (330, .iconst 3, 0, 0), (331, .iadd, 0, 0), (332, .iaload, 0, 0), (333, .invokevirtual 65, 69, 0), (336, .istore 6, 0, 0), (338, .aload_n 2, 0, 0)]
def mt_92_3 : List (Nat × Instr × Nat × Nat) := [(339, .invokevirtual 51, 53, 0), (342, .iload 5, 0, 0), (344, .if_icmp .eq 5, 349, 0), (347, .iconst 0, 0, 0), (348, .ireturn, 0, 0), (349, .iload 5, 0, 0), (351, .ifCond .ne 15, 366, 0), (354, .aload_n 3, 0, 0), (355, .iconst 0, 0, 0), (356, .laload, 0, 0), (357, .iload 6, 0, 0), (359, .i2l, 0, 0), (360, .lcmp, 0, 0), (361, .ifCond .eq 5, 366, 0), (364, .iconst 0, 0, 0), (365, .ireturn, 0, 0), (366, .goto 535, 901, 0), (369, .aload_n 1, 0, 0), (370, .aload_n 0, 0, 0), (371, .iload 4, 0, 0), (373, .iconst 1, 0, 0), (374, .iadd, 0, 0), (375, .iaload, 0, 0), (376, .aload_n 0, 0, 0), (377, .iload 4, 0, 0), (379, .iconst 2, 0, 0), (380, .iadd, 0, 0), (381, .iaload, 0, 0), (382, .aload_n 0, 0, 0), (383, .iload 4, 0, 0), (385, .iconst 3, 0, 0), (386, .iadd, 0, 0), (387, .iaload, 0, 0), (388, .aload_n 3, 0, 0), (389, .invokestatic 66, 88, 0), (392, .istore 5, 0, 0), (394, .aload_n 2, 0, 0), (395, .aload_n 0, 0, 0), (396, .iload 4, 0, 0), (398, .iconst 1, 0, 0), (399, .iadd, 0, 0), (400, .iaload, 0, 0), (401, .aload_n 0, 0, 0), (402, .iload 4, 0, 0), (404, .iconst 2, 0, 0), (405, .iadd, 0, 0), (406, .iaload, 0, 0), (407, .aload_n 0, 0, 0), (408, .iload 4, 0, 0), (410, .iconst 3, 0, 0), (411, .iadd, 0, 0), (412, .iaload, 0, 0), (413, .invokevirtual 68, 70, 0), (416, .istore 6, 0, 0), (418, .aload_n 2, 0, 0), (419, .invokevirtual 51, 53, 0), (422, .iload 5, 0, 0), (424, .if_icmp .eq 5, 429, 0), (427, .iconst 0, 0, 0), (428, .ireturn, 0, 0)]
def mt_92_4 : List (Nat × Instr × Nat × Nat) := [(429, .iload 5, 0, 0), (431, .ifCond .ne 15, 446, 0), (434, .aload_n 3, 0, 0), (435, .iconst 0, 0, 0), (436, .laload, 0, 0), (437, .iload 6, 0, 0), (439, .i2l, 0, 0), (440, .lcmp, 0, 0), (441, .ifCond .eq 5, 446, 0), (444, .iconst 0, 0, 0), (445, .ireturn, 0, 0), (446, .goto 455, 901, 0), (449, .aload_n 1, 0, 0), (450, .aload_n 0, 0, 0), (451, .iload 4, 0, 0), (453, .iconst 1, 0, 0), (454, .iadd, 0, 0), (455, .iaload, 0, 0), (456, .aload_n 3, 0, 0), (457, .invokestatic 69, 89, 0), (460, .istore 5, 0, 0), (462, .aload_n 2, 0, 0), (463, .aload_n 0, 0, 0), (464, .iload 4, 0, 0), (466, .iconst 1, 0, 0), (467, .iadd, 0, 0), (468, .iaload, 0, 0), (469, .invokevirtual 72, 74, 0), (472, .istore 6, 0, 0), (474, .aload_n 2, 0, 0), (475, .invokevirtual 51, 53, 0), (478, .iload 5, 0, 0), (480, .if_icmp .eq 5, 485, 0), (483, .iconst 0, 0, 0), (484, .ireturn, 0, 0), (485, .iload 5, 0, 0), (487, .ifCond .ne 15, 502, 0), (490, .aload_n 3, 0, 0), (491, .iconst 0, 0, 0), (492, .laload, 0, 0), (493, .iload 6, 0, 0), (495, .i2l, 0, 0), (496, .lcmp, 0, 0), (497, .ifCond .eq 5, 502, 0), (500, .iconst 0, 0, 0), (501, .ireturn, 0, 0), (502, .goto 399, 901, 0), (505, .aload_n 1, 0, 0), (506, .aload_n 0, 0, 0), (507, .iload 4, 0, 0), (509, .iconst 1, 0, 0), (510, .iadd, 0, 0), (511, .iaload, 0, 0), (512, .aload_n 0, 0, 0), (513, .iload 4, 0, 0), (515, .iconst 2, 0, 0), (516, .iadd, 0, 0), (517, .iaload, 0, 0), (518, .aload_n 3, 0, 0), (519, .invokestatic 73, 90, 0)]
def mt_92_5 : List (Nat × Instr × Nat × Nat) := [(522, .istore 5, 0, 0), (524, .aload_n 2, 0, 0), (525, .aload_n 0, 0, 0), (526, .iload 4, 0, 0), (528, .iconst 1, 0, 0), (529, .iadd, 0, 0), (530, .iaload, 0, 0), (531, .aload_n 0, 0, 0), (532, .iload 4, 0, 0), (534, .iconst 2, 0, 0), (535, .iadd, 0, 0), (536, .iaload, 0, 0), (537, .invokevirtual 75, 75, 0), (540, .istore 6, 0, 0), (542, .aload_n 2, 0, 0), (543, .invokevirtual 51, 53, 0), (546, .iload 5, 0, 0), (548, .if_icmp .eq 5, 553, 0), (551, .iconst 0, 0, 0), (552, .ireturn, 0, 0), (553, .iload 5, 0, 0), (555, .ifCond .ne 15, 570, 0), (558, .aload_n 3, 0, 0), (559, .iconst 0, 0, 0), (560, .laload, 0, 0), (561, .iload 6, 0, 0), (563, .i2l, 0, 0), (564, .lcmp, 0, 0), (565, .ifCond .eq 5, 570, 0), (568, .iconst 0, 0, 0), (569, .ireturn, 0, 0), (570, .goto 331, 901, 0), (573, .aload_n 1, 0, 0), (574, .aload_n 3, 0, 0), (575, .invokestatic 76, 91, 0), (578, .istore 5, 0, 0), (580, .aload_n 2, 0, 0), (581, .invokevirtual 79, 76, 0), (584, .istore 6, 0, 0), (586, .aload_n 2, 0, 0), (587, .invokevirtual 51, 53, 0), (590, .iload 5, 0, 0), (592, .if_icmp .eq 5, 597, 0), (595, .iconst 0, 0, 0), (596, .ireturn, 0, 0), (597, .iload 5, 0, 0), (599, .ifCond .ne 15, 614, 0), (602, .aload_n 3, 0, 0), (603, .iconst 0, 0, 0), (604, .laload, 0, 0), (605, .iload 6, 0, 0), (607, .i2l, 0, 0), (608, .lcmp, 0, 0), (609, .ifCond .eq 5, 614, 0), (612, .iconst 0, 0, 0), (613, .ireturn, 0, 0), (614, .goto 287, 901, 0), (617, .aload_n 1, 0, 0), (618, .aload_n 0, 0, 0), (619, .iload 4, 0, 0)]
def mt_92_6 : List (Nat × Instr × Nat × Nat) := [(621, .iconst 1, 0, 0), (622, .iadd, 0, 0), (623, .iaload, 0, 0), (624, .invokevirtual 80, 35, 0), (627, .aload_n 2, 0, 0), (628, .aload_n 0, 0, 0), (629, .iload 4, 0, 0), (631, .iconst 1, 0, 0), (632, .iadd, 0, 0), (633, .iaload, 0, 0), (634, .invokevirtual 83, 77, 0), (637, .if_icmp .eq 264, 901, 0), (640, .iconst 0, 0, 0), (641, .ireturn, 0, 0), (642, .aload_n 1, 0, 0), (643, .aload_n 0, 0, 0), (644, .iload 4, 0, 0), (646, .iconst 1, 0, 0), (647, .iadd, 0, 0), (648, .iaload, 0, 0), (649, .invokevirtual 84, 36, 0), (652, .aload_n 2, 0, 0), (653, .aload_n 0, 0, 0), (654, .iload 4, 0, 0), (656, .iconst 1, 0, 0), (657, .iadd, 0, 0), (658, .iaload, 0, 0), (659, .invokevirtual 87, 78, 0), (662, .if_icmp .eq 239, 901, 0), (665, .iconst 0, 0, 0), (666, .ireturn, 0, 0), (667, .aload_n 1, 0, 0), (668, .aload_n 0, 0, 0), (669, .iload 4, 0, 0), (671, .iconst 1, 0, 0), (672, .iadd, 0, 0), (673, .iaload, 0, 0), (674, .invokevirtual 88, 37, 0), (677, .aload_n 2, 0, 0), (678, .aload_n 0, 0, 0), (679, .iload 4, 0, 0), (681, .iconst 1, 0, 0), (682, .iadd, 0, 0), (683, .iaload, 0, 0), (684, .invokevirtual 91, 79, 0), (687, .if_icmp .eq 214, 901, 0), (690, .iconst 0, 0, 0), (691, .ireturn, 0, 0), (692, .aload_n 1, 0, 0), (693, .aload_n 0, 0, 0), (694, .iload 4, 0, 0), (696, .iconst 1, 0, 0), (697, .iadd, 0, 0), (698, .iaload, 0, 0), (699, .aload_n 0, 0, 0), (700, .iload 4, 0, 0), (702, .iconst 2, 0, 0), (703, .iadd, 0, 0), (704, .iaload, 0, 0), (705, .invokevirtual 92, 38, 0)]
def mt_92_7 : List (Nat × Instr × Nat × Nat) := [(708, .aload_n 2, 0, 0), (709, .aload_n 0, 0, 0), (710, .iload 4, 0, 0), (712, .iconst 1, 0, 0), (713, .iadd, 0, 0), (714, .iaload, 0, 0), (715, .aload_n 0, 0, 0), (716, .iload 4, 0, 0), (718, .iconst 2, 0, 0), (719, .iadd, 0, 0), (720, .iaload, 0, 0), (721, .invokevirtual 95, 80, 0), (724, .if_icmp .eq 177, 901, 0), (727, .iconst 0, 0, 0), (728, .ireturn, 0, 0), (729, .aload_n 1, 0, 0), (730, .aload_n 0, 0, 0), (731, .iload 4, 0, 0), (733, .iconst 1, 0, 0), (734, .iadd, 0, 0), (735, .iaload, 0, 0), (736, .aload_n 0, 0, 0), (737, .iload 4, 0, 0), (739, .iconst 2, 0, 0), (740, .iadd, 0, 0), (741, .iaload, 0, 0), (742, .aload_n 0, 0, 0), (743, .iload 4, 0, 0), (745, .iconst 3, 0, 0), (746, .iadd, 0, 0), (747, .iaload, 0, 0), (748, .invokevirtual 96, 39, 0), (751, .aload_n 2, 0, 0), (752, .aload_n 0, 0, 0), (753, .iload 4, 0, 0), (755, .iconst 1, 0, 0), (756, .iadd, 0, 0), (757, .iaload, 0, 0), (758, .aload_n 0, 0, 0), (759, .iload 4, 0, 0), (761, .iconst 2, 0, 0), (762, .iadd, 0, 0), (763, .iaload, 0, 0), (764, .aload_n 0, 0, 0), (765, .iload 4, 0, 0), (767, .iconst 3, 0, 0), (768, .iadd, 0, 0), (769, .iaload, 0, 0), (770, .invokevirtual 99, 81, 0), (773, .if_icmp .eq 128, 901, 0), (776, .iconst 0, 0, 0), (777, .ireturn, 0, 0), (778, .aload_n 1, 0, 0), (779, .aload_n 0, 0, 0), (780, .iload 4, 0, 0), (782, .iconst 1, 0, 0), (783, .iadd, 0, 0), (784, .iaload, 0, 0), (785, .aload_n 0, 0, 0), (786, .iload 4, 0, 0)]
def mt_92_8 : List (Nat × Instr × Nat × Nat) := [(788, .iconst 2, 0, 0), (789, .iadd, 0, 0), (790, .iaload, 0, 0), (791, .invokevirtual 100, 40, 0), (794, .aload_n 2, 0, 0), (795, .aload_n 0, 0, 0), (796, .iload 4, 0, 0), (798, .iconst 1, 0, 0), (799, .iadd, 0, 0), (800, .iaload, 0, 0), (801, .aload_n 0, 0, 0), (802, .iload 4, 0, 0), (804, .iconst 2, 0, 0), (805, .iadd, 0, 0), (806, .iaload, 0, 0), (807, .invokevirtual 103, 82, 0), (810, .if_icmp .eq 91, 901, 0), (813, .iconst 0, 0, 0), (814, .ireturn, 0, 0), (815, .aload_n 1, 0, 0), (816, .aload_n 0, 0, 0), (817, .iload 4, 0, 0), (819, .iconst 1, 0, 0), (820, .iadd, 0, 0), (821, .iaload, 0, 0), (822, .aload_n 0, 0, 0), (823, .iload 4, 0, 0), (825, .iconst 2, 0, 0), (826, .iadd, 0, 0), (827, .iaload, 0, 0), (828, .aload_n 0, 0, 0), (829, .iload 4, 0, 0), (831, .iconst 3, 0, 0), (832, .iadd, 0, 0), (833, .iaload, 0, 0), (834, .invokevirtual 104, 41, 0), (837, .aload_n 2, 0, 0), (838, .aload_n 0, 0, 0), (839, .iload 4, 0, 0), (841, .iconst 1, 0, 0), (842, .iadd, 0, 0), (843, .iaload, 0, 0), (844, .aload_n 0, 0, 0), (845, .iload 4, 0, 0), (847, .iconst 2, 0, 0), (848, .iadd, 0, 0), (849, .iaload, 0, 0), (850, .aload_n 0, 0, 0), (851, .iload 4, 0, 0), (853, .iconst 3, 0, 0), (854, .iadd, 0, 0), (855, .iaload, 0, 0), (856, .invokevirtual 108, 83, 0), (859, .if_icmp .eq 42, 901, 0), (862, .iconst 0, 0, 0), (863, .ireturn, 0, 0), (864, .aload_n 1, 0, 0), (865, .aload_n 0, 0, 0), (866, .iload 4, 0, 0), (868, .iconst 1, 0, 0)]
def mt_92_9 : List (Nat × Instr × Nat × Nat) := [(869, .iadd, 0, 0), (870, .iaload, 0, 0), (871, .aload_n 0, 0, 0), (872, .iload 4, 0, 0), (874, .iconst 2, 0, 0), (875, .iadd, 0, 0), (876, .iaload, 0, 0), (877, .invokevirtual 109, 42, 0), (880, .aload_n 2, 0, 0), (881, .aload_n 0, 0, 0), (882, .iload 4, 0, 0), (884, .iconst 1, 0, 0), (885, .iadd, 0, 0), (886, .iaload, 0, 0), (887, .aload_n 0, 0, 0), (888, .iload 4, 0, 0), (890, .iconst 2, 0, 0), (891, .iadd, 0, 0), (892, .iaload, 0, 0), (893, .invokevirtual 112, 84, 0), (896, .if_icmp .eq 5, 901, 0), (899, .iconst 0, 0, 0), (900, .ireturn, 0, 0), (901, .iinc 4 5, 0, 0), (904, .goto (-881), 23, 0), (907, .iconst 1, 0, 0), (908, .ireturn, 0, 0)]
def mt_92 : List (Nat × Instr × Nat × Nat) := mt_92_0 ++ (mt_92_1 ++ (mt_92_2 ++ (mt_92_3 ++ (mt_92_4 ++ (mt_92_5 ++ (mt_92_6 ++ (mt_92_7 ++ (mt_92_8 ++ (mt_92_9)))))))))
def m_tab (k : Nat) : List (Nat × Instr × Nat × Nat) := match k with
  | 0 => mt_0
  | 1 => mt_1
  | 2 => mt_2
  | 3 => mt_3
  | 4 => mt_4
  | 5 => mt_5
  | 6 => mt_6
  | 7 => mt_7
  | 8 => mt_8
  | 9 => mt_9
  | 10 => mt_10
  | 11 => mt_11
  | 12 => mt_12
  | 13 => mt_13
  | 14 => mt_14
  | 15 => mt_15
  | 16 => mt_16
  | 17 => mt_17
  | 18 => mt_18
  | 19 => mt_19
  | 20 => mt_20
  | 21 => mt_21
  | 22 => mt_22
  | 23 => mt_23
  | 24 => mt_24
  | 25 => mt_25
  | 26 => mt_26
  | 27 => mt_27
  | 28 => mt_28
  | 29 => mt_29
  | 30 => mt_30
  | 31 => mt_31
  | 32 => mt_32
  | 33 => mt_33
  | 34 => mt_34
  | 35 => mt_35
  | 36 => mt_36
  | 37 => mt_37
  | 38 => mt_38
  | 39 => mt_39
  | 40 => mt_40
  | 41 => mt_41
  | 42 => mt_42
  | 43 => mt_43
  | 44 => mt_44
  | 45 => mt_45
  | 46 => mt_46
  | 47 => mt_47
  | 48 => mt_48
  | 49 => mt_49
  | 50 => mt_50
  | 51 => mt_51
  | 52 => mt_52
  | 53 => mt_53
  | 54 => mt_54
  | 55 => mt_55
  | 56 => mt_56
  | 57 => mt_57
  | 58 => mt_58
  | 59 => mt_59
  | 60 => mt_60
  | 61 => mt_61
  | 62 => mt_62
  | 63 => mt_63
  | 64 => mt_64
  | 65 => mt_65
  | 66 => mt_66
  | 67 => mt_67
  | 68 => mt_68
  | 69 => mt_69
  | 70 => mt_70
  | 71 => mt_71
  | 72 => mt_72
  | 73 => mt_73
  | 74 => mt_74
  | 75 => mt_75
  | 76 => mt_76
  | 77 => mt_77
  | 78 => mt_78
  | 79 => mt_79
  | 80 => mt_80
  | 81 => mt_81
  | 82 => mt_82
  | 83 => mt_83
  | 84 => mt_84
  | 85 => mt_85
  | 86 => mt_86
  | 87 => mt_87
  | 88 => mt_88
  | 89 => mt_89
  | 90 => mt_90
  | 91 => mt_91
  | 92 => mt_92
  | _ => []
def m_look : List (Nat × Instr × Nat × Nat) → Nat → Option (Instr × Nat × Nat)
  | [], _ => none
  | r :: t, q => cond (Nat.beq r.1 q) (some r.2) (m_look t q)
def m_i (k pc : Nat) : Option (Instr × Nat × Nat) := m_look (m_tab k) pc
def m_len : Instr → Nat
  | .bipush _ => 2
  | .iload _ => 2
  | .istore _ => 2
  | .aload _ => 2
  | .astore _ => 2
  | .lload _ => 2
  | .lstore _ => 2
  | .newarray _ => 2
  | .ldc _ => 2
  | .sipush _ => 3
  | .iinc _ _ => 3
  | .goto _ => 3
  | .ifCond _ _ => 3
  | .if_icmp _ _ => 3
  | .ifnull _ => 3
  | .ifnonnull _ => 3
  | .getfield _ => 3
  | .putfield _ => 3
  | .invokevirtual _ => 3
  | .invokespecial _ => 3
  | .invokestatic _ => 3
  | .new _ => 3
  | .anewarray _ => 3
  | .tableswitch _ _ _ _ => 77
  | _ => 1
def m_jump (pc : Nat) (i : Instr) (a : Nat) : Prop := match i with
  | .goto o => (pc : Int) + o = (a : Int)
  | .ifnull o => (pc : Int) + o = (a : Int)
  | .ifnonnull o => (pc : Int) + o = (a : Int)
  | .ifCond _ o => (pc : Int) + o = (a : Int)
  | .if_icmp _ o => (pc : Int) + o = (a : Int)
  | _ => True
def m_jumpb (pc : Nat) (i : Instr) (a : Nat) : Bool := match i with
  | .goto o => decide ((pc : Int) + o = (a : Int))
  | .ifnull o => decide ((pc : Int) + o = (a : Int))
  | .ifnonnull o => decide ((pc : Int) + o = (a : Int))
  | .ifCond _ o => decide ((pc : Int) + o = (a : Int))
  | .if_icmp _ o => decide ((pc : Int) + o = (a : Int))
  | _ => true
/-- words that hold in every state with warmer tables -/
def m_gw : Cond → Bool
  | .methodLinkNest .. => true
  | .declares _ => true
  | .castable .. => true
  | .stringRef .. => true
  | .arrayOver (.object _) => true
  | w => goodWord w
def m_tall : List Cond := lw_tbl.filter m_gw
/-- a method's own words -/
def m_fact (a : Nat) : Prop :=
  ((m_h a = [] ∧ Cond.code (m_y a) (m_b a) (m_n a) (m_r a) ∈ m_tall) ∨ Cond.codeWith (m_y a) (m_b a) (m_n a) (m_r a) (m_h a) ∈ m_tall) ∧ Cond.initialized (m_y a).cls ∈ m_tall ∧ plainFor (m_y a) = true ∧ ((m_y a).cls ≠ "java/lang/invoke/MethodHandle" ∧ (m_y a).cls ≠ "java/lang/invoke/VarHandle") ∧ (parseMethodDescriptor (m_y a).desc).map (fun d => d.parameters.length) = some (m_ar a)
/-- the entry and the bytes by which an exception's constructor calls RuntimeException's -/
def m_six (q : Nat) : Nat × ByteArray := match q with
  | 0 => (7, Bundle.six)
  | 1 => (7, Bundle.six)
  | _ => (13, ⟨#[0x2a, 0x2b, 0xb7, 0x00, 0x0d, 0xb1]⟩)
/-- what the throw of an exception asks of the tables: its constructor's link, the constructors above it, its fields -/
def m_ownL (cls : String) (ic : Nat) (E : String) (ix : Nat) (bs : ByteArray) : List Cond :=
  Bundle.throwableAtoms ++ (Bundle.throwableSAtoms ++ (Bundle.passSAtoms E "java/lang/RuntimeException" ix bs ++ (Bundle.chainSAtoms "java/lang/RuntimeException" ["java/lang/Exception"] ++
  [.methodLink cls ic (Bundle.initS E), .instantiable E 6, .castable E E, .selects E Bundle.tFill0 Bundle.tFill0, .selects E Bundle.tFill Bundle.tFill,
   .lays E Bundle.tN "cause" "Ljava/lang/Throwable;", .lays E Bundle.tN "stackTrace" Bundle.steD, .lays E Bundle.tN "suppressedExceptions" Bundle.listD, .lays E Bundle.tN "detailMessage" "Ljava/lang/String;",
   .isRef (.static Bundle.tN "UNASSIGNED_STACK" Bundle.steD), .isRef (.static Bundle.tN "SUPPRESSED_SENTINEL" Bundle.listD),
   .fieldLink Bundle.tN 198 Bundle.tN "backtrace" "Ljava/lang/Object;", .lays Bundle.tN Bundle.tN "backtrace" "Ljava/lang/Object;", .lays E Bundle.tN "backtrace" "Ljava/lang/Object;"])))
def m_own (cls : String) (ic q : Nat) : Prop := ∀ w ∈ m_ownL cls ic (m_exc q) (m_six q).1 (m_six q).2, w ∈ m_tall ∨ w = .laysStatic Bundle.tN "UNASSIGNED_STACK" Bundle.steD ∨ w = .isRef (.static Bundle.tN "UNASSIGNED_STACK" Bundle.steD) ∨ w = .laysStatic Bundle.tN "SUPPRESSED_SENTINEL" Bundle.listD ∨ w = .isRef (.static Bundle.tN "SUPPRESSED_SENTINEL" Bundle.listD)
def m_okw (k pc : Nat) (i : Instr) (a b : Nat) : Prop := match i with
  | .getfield x => ∃ r : vw_C, vwCl[a]? = some r ∧ b < r.2.2 ∧ (Cond.fieldLink (m_y k).cls x (r.2.1 b).1 (r.2.1 b).2.1 (r.2.1 b).2.2.1 ∈ m_tall ∨ Cond.fieldLinkNest (m_y k).cls x (r.2.1 b).1 (r.2.1 b).2.1 (r.2.1 b).2.2.1 m_host ∈ m_tall)
  | .putfield x => ∃ r : vw_C, vwCl[a]? = some r ∧ b < r.2.2 ∧ (((r.2.1 b).2.2.2 = false ∧ Cond.fieldLink (m_y k).cls x (r.2.1 b).1 (r.2.1 b).2.1 (r.2.1 b).2.2.1 ∈ m_tall) ∨ ((r.2.1 b).2.2.2 = false ∧ Cond.fieldLinkNest (m_y k).cls x (r.2.1 b).1 (r.2.1 b).2.1 (r.2.1 b).2.2.1 m_host ∈ m_tall) ∨ ((r.2.1 b).2.2.2 = true ∧ (m_y k).name = "<init>" ∧ (r.2.1 b).1 = (m_y k).cls ∧ Cond.fieldLink (m_y k).cls x (r.2.1 b).1 (r.2.1 b).2.1 (r.2.1 b).2.2.1 ∈ m_tall))
  | .new x => (b = 0 → ∃ r : vw_C, vwCl[a]? = some r ∧ Cond.classLink (m_y k).cls x r.1 ∈ m_tall ∧ Cond.instantiable r.1 r.2.2 ∈ m_tall ∧ Cond.initialized r.1 ∈ m_tall) ∧
    (b = 1 → ∃ (is ic : Nat) (text : String), decode (m_b k) (pc + 3) = .ok (.dup, 1) ∧ decode (m_b k) (pc + 4) = .ok (.ldc is, 2) ∧ decode (m_b k) (pc + 6) = .ok (.invokespecial ic, 3) ∧ decode (m_b k) (pc + 9) = .ok (.athrow, 1) ∧ a < 3 ∧ Cond.classLink (m_y k).cls x (m_exc a) ∈ m_tall ∧ Cond.initialized (m_exc a) ∈ m_tall ∧ Cond.stringRef (m_y k).cls is text ∈ m_tall ∧ m_own (m_y k).cls ic a)
  | .newarray t => Cond.arrayClass (newarray.typeOf t) ∈ m_tall
  | .anewarray x => Cond.classLink (m_y k).cls x m_parcel ∈ m_tall ∧ Cond.arrayOver (.object m_parcel) ∈ m_tall
  | .invokevirtual x => m_fact a ∧ (Cond.methodLink (m_y k).cls x (m_y a) ∈ m_tall ∨ Cond.methodLinkNest (m_y k).cls x (m_y a) m_host ∈ m_tall) ∧ Cond.instanceMethod (m_y a) ∈ m_tall ∧ Cond.selects (m_y a).cls (m_y a) (m_y a) ∈ m_tall
  | .invokestatic x => (a = 1000 → Cond.methodLink (m_y k).cls x Lib.Math.max.name ∈ m_tall ∧ Cond.static Lib.Math.max.name ∈ m_tall ∧ Cond.initialized "java/lang/Math" ∈ m_tall ∧ Cond.code Lib.Math.max.name Lib.Math.max.code 2 (some .int) ∈ m_tall) ∧
    (a ≠ 1000 → m_fact a ∧ (Cond.methodLink (m_y k).cls x (m_y a) ∈ m_tall ∨ Cond.methodLinkNest (m_y k).cls x (m_y a) m_host ∈ m_tall) ∧ Cond.static (m_y a) ∈ m_tall)
  | .invokespecial x => (a = 1000 → Cond.methodLink (m_y k).cls x Lib.objectInit ∈ m_tall ∧ Cond.instanceMethod Lib.objectInit ∈ m_tall ∧ Cond.code Lib.objectInit ⟨#[0xb1]⟩ 1 none ∈ m_tall) ∧
    (a ≠ 1000 → m_fact a ∧ (Cond.methodLink (m_y k).cls x (m_y a) ∈ m_tall ∨ Cond.methodLinkNest (m_y k).cls x (m_y a) m_host ∈ m_tall) ∧ Cond.instanceMethod (m_y a) ∈ m_tall ∧ Cond.code (m_y a) (m_b a) (m_n a) none ∈ m_tall ∧ (m_y a).name = "<init>")
  | _ => True
end
section
/-! That the tables are the machine's: printed by wip/gen/tables.py. -/
theorem m_in {w : Cond} (i : Nat) (h : tables_1[i]? = some w) (hg : m_gw w = true) : w ∈ m_tall := List.mem_filter.mpr ⟨List.mem_append_right _ (List.mem_of_getElem? h), hg⟩
theorem m_inp {w : Cond} (i : Nat) (h : (k2_sels lw_privs)[i]? = some w) (hg : m_gw w = true) : w ∈ m_tall := List.mem_filter.mpr ⟨List.mem_append_left _ (List.mem_of_getElem? h), hg⟩
theorem mw_0 : (Jvm.Cond.initialized "RelayPassagesLaw") ∈ m_tall := m_in 0 (by decide +kernel) rfl
theorem mw_1 : (Jvm.Cond.initialized "RelayPassages") ∈ m_tall := m_in 1 (by decide +kernel) rfl
theorem mw_2 : (Jvm.Cond.initialized "RelayPassages$Network") ∈ m_tall := m_in 2 (by decide +kernel) rfl
theorem mw_3 : (Jvm.Cond.initialized "RelayPassages$WayFinder") ∈ m_tall := m_in 3 (by decide +kernel) rfl
theorem mw_4 : (Jvm.Cond.initialized "RelayPassagesModel") ∈ m_tall := m_in 4 (by decide +kernel) rfl
theorem mw_8 : (Jvm.Cond.initialized "java/lang/IllegalArgumentException") ∈ m_tall := m_in 8 (by decide +kernel) rfl
theorem mw_9 : (Jvm.Cond.initialized "java/lang/IllegalStateException") ∈ m_tall := m_in 9 (by decide +kernel) rfl
theorem mw_10 : (Jvm.Cond.initialized "RelayPassages$Parcel") ∈ m_tall := m_in 10 (by decide +kernel) rfl
theorem mw_11 : (Jvm.Cond.initialized "java/util/NoSuchElementException") ∈ m_tall := m_in 11 (by decide +kernel) rfl
theorem mw_12 : (Jvm.Cond.initialized "java/lang/Math") ∈ m_tall := m_in 12 (by decide +kernel) rfl
theorem mw_13 : (Jvm.Cond.classLink "RelayPassagesLaw" (8 : Nat) "RelayPassages") ∈ m_tall := m_in 13 (by decide +kernel) rfl
theorem mw_14 : (Jvm.Cond.instantiable "RelayPassages" (5 : Nat)) ∈ m_tall := m_in 14 (by decide +kernel) rfl
theorem mw_15 : (Jvm.Cond.methodLink "RelayPassagesLaw" (41 : Nat) ({ cls := "RelayPassages", name := "<init>", desc := "()V" } : Jvm.MethodName)) ∈ m_tall := m_in 15 (by decide +kernel) rfl
theorem mw_16 : (Jvm.Cond.instanceMethod ({ cls := "RelayPassages", name := "<init>", desc := "()V" } : Jvm.MethodName)) ∈ m_tall := m_in 16 (by decide +kernel) rfl
theorem mw_17 : (Jvm.Cond.code ({ cls := "RelayPassages", name := "<init>", desc := "()V" } : Jvm.MethodName) prog_1_method_1_code (1 : Nat) (Option.none : Option Jvm.ClassFile.FieldType)) ∈ m_tall := m_in 17 (by decide +kernel) rfl
theorem mw_18 : (Jvm.Cond.methodLink "RelayPassages" (1 : Nat) ({ cls := "java/lang/Object", name := "<init>", desc := "()V" } : Jvm.MethodName)) ∈ m_tall := m_in 18 (by decide +kernel) rfl
theorem mw_19 : (Jvm.Cond.instanceMethod ({ cls := "java/lang/Object", name := "<init>", desc := "()V" } : Jvm.MethodName)) ∈ m_tall := m_in 19 (by decide +kernel) rfl
theorem mw_20 : (Jvm.Cond.code ({ cls := "java/lang/Object", name := "<init>", desc := "()V" } : Jvm.MethodName) object_method_1_code (1 : Nat) (Option.none : Option Jvm.ClassFile.FieldType)) ∈ m_tall := m_in 20 (by decide +kernel) rfl
theorem mw_21 : (Jvm.Cond.classLink "RelayPassages" (7 : Nat) "RelayPassages$Network") ∈ m_tall := m_in 21 (by decide +kernel) rfl
theorem mw_22 : (Jvm.Cond.instantiable "RelayPassages$Network" (7 : Nat)) ∈ m_tall := m_in 22 (by decide +kernel) rfl
theorem mw_23 : (Jvm.Cond.methodLinkNest "RelayPassages" (9 : Nat) ({ cls := "RelayPassages$Network", name := "<init>", desc := "()V" } : Jvm.MethodName) "RelayPassages") ∈ m_tall := m_in 23 (by decide +kernel) rfl
theorem mw_24 : (Jvm.Cond.instanceMethod ({ cls := "RelayPassages$Network", name := "<init>", desc := "()V" } : Jvm.MethodName)) ∈ m_tall := m_in 24 (by decide +kernel) rfl
theorem mw_25 : (Jvm.Cond.code ({ cls := "RelayPassages$Network", name := "<init>", desc := "()V" } : Jvm.MethodName) prog_2_method_1_code (1 : Nat) (Option.none : Option Jvm.ClassFile.FieldType)) ∈ m_tall := m_in 25 (by decide +kernel) rfl
theorem mw_26 : (Jvm.Cond.methodLink "RelayPassages$Network" (3 : Nat) ({ cls := "java/lang/Object", name := "<init>", desc := "()V" } : Jvm.MethodName)) ∈ m_tall := m_in 26 (by decide +kernel) rfl
theorem mw_27 : (Jvm.Cond.fieldLink "RelayPassages" (63 : Nat) "RelayPassages$Network" "nodes" "I") ∈ m_tall := m_in 27 (by decide +kernel) rfl
theorem mw_28 : (Jvm.Cond.fieldLink "RelayPassages$Network" (36 : Nat) "RelayPassages$Network" "nodes" "I") ∈ m_tall := m_in 28 (by decide +kernel) rfl
theorem mw_29 : (Jvm.Cond.fieldLink "RelayPassages" (54 : Nat) "RelayPassages$Network" "contacts" "I") ∈ m_tall := m_in 29 (by decide +kernel) rfl
theorem mw_30 : (Jvm.Cond.fieldLink "RelayPassages$Network" (43 : Nat) "RelayPassages$Network" "contacts" "I") ∈ m_tall := m_in 30 (by decide +kernel) rfl
theorem mw_31 : (Jvm.Cond.fieldLink "RelayPassages$Network" (24 : Nat) "RelayPassages$Network" "made" "I") ∈ m_tall := m_in 31 (by decide +kernel) rfl
theorem mw_32 : (Jvm.Cond.fieldLink "RelayPassages$Network" (9 : Nat) "RelayPassages$Network" "places" "[I") ∈ m_tall := m_in 32 (by decide +kernel) rfl
theorem mw_33 : (Jvm.Cond.fieldLink "RelayPassages$Network" (15 : Nat) "RelayPassages$Network" "openTo" "[I") ∈ m_tall := m_in 33 (by decide +kernel) rfl
theorem mw_34 : (Jvm.Cond.fieldLink "RelayPassages$Network" (18 : Nat) "RelayPassages$Network" "usedTo" "[I") ∈ m_tall := m_in 34 (by decide +kernel) rfl
theorem mw_35 : (Jvm.Cond.fieldLink "RelayPassages$Network" (21 : Nat) "RelayPassages$Network" "storedAt" "[I") ∈ m_tall := m_in 35 (by decide +kernel) rfl
theorem mw_36 : (Jvm.Cond.lays "RelayPassages$Network" "RelayPassages$Network" "nodes" "I") ∈ m_tall := m_in 36 (by decide +kernel) rfl
theorem mw_38 : (Jvm.Cond.lays "RelayPassages$Network" "RelayPassages$Network" "contacts" "I") ∈ m_tall := m_in 38 (by decide +kernel) rfl
theorem mw_40 : (Jvm.Cond.lays "RelayPassages$Network" "RelayPassages$Network" "made" "I") ∈ m_tall := m_in 40 (by decide +kernel) rfl
theorem mw_42 : (Jvm.Cond.laysFinal "RelayPassages$Network" "RelayPassages$Network" "places" "[I") ∈ m_tall := m_in 42 (by decide +kernel) rfl
theorem mw_44 : (Jvm.Cond.laysFinal "RelayPassages$Network" "RelayPassages$Network" "openTo" "[I") ∈ m_tall := m_in 44 (by decide +kernel) rfl
theorem mw_46 : (Jvm.Cond.laysFinal "RelayPassages$Network" "RelayPassages$Network" "usedTo" "[I") ∈ m_tall := m_in 46 (by decide +kernel) rfl
theorem mw_48 : (Jvm.Cond.laysFinal "RelayPassages$Network" "RelayPassages$Network" "storedAt" "[I") ∈ m_tall := m_in 48 (by decide +kernel) rfl
theorem mw_51 : (Jvm.Cond.arrayClass Jvm.ClassFile.FieldType.int) ∈ m_tall := m_in 51 (by decide +kernel) rfl
theorem mw_52 : (Jvm.Cond.classLink "RelayPassages" (16 : Nat) "RelayPassages$WayFinder") ∈ m_tall := m_in 52 (by decide +kernel) rfl
theorem mw_53 : (Jvm.Cond.instantiable "RelayPassages$WayFinder" (2 : Nat)) ∈ m_tall := m_in 53 (by decide +kernel) rfl
theorem mw_54 : (Jvm.Cond.methodLinkNest "RelayPassages" (18 : Nat) ({ cls := "RelayPassages$WayFinder", name := "<init>", desc := "()V" } : Jvm.MethodName) "RelayPassages") ∈ m_tall := m_in 54 (by decide +kernel) rfl
theorem mw_55 : (Jvm.Cond.instanceMethod ({ cls := "RelayPassages$WayFinder", name := "<init>", desc := "()V" } : Jvm.MethodName)) ∈ m_tall := m_in 55 (by decide +kernel) rfl
theorem mw_56 : (Jvm.Cond.code ({ cls := "RelayPassages$WayFinder", name := "<init>", desc := "()V" } : Jvm.MethodName) prog_4_method_1_code (1 : Nat) (Option.none : Option Jvm.ClassFile.FieldType)) ∈ m_tall := m_in 56 (by decide +kernel) rfl
theorem mw_57 : (Jvm.Cond.methodLink "RelayPassages$WayFinder" (3 : Nat) ({ cls := "java/lang/Object", name := "<init>", desc := "()V" } : Jvm.MethodName)) ∈ m_tall := m_in 57 (by decide +kernel) rfl
theorem mw_58 : (Jvm.Cond.fieldLink "RelayPassages$WayFinder" (9 : Nat) "RelayPassages$WayFinder" "way" "[I") ∈ m_tall := m_in 58 (by decide +kernel) rfl
theorem mw_59 : (Jvm.Cond.fieldLink "RelayPassages" (168 : Nat) "RelayPassages$WayFinder" "way" "[I") ∈ m_tall := m_in 59 (by decide +kernel) rfl
theorem mw_60 : (Jvm.Cond.fieldLink "RelayPassages$WayFinder" (15 : Nat) "RelayPassages$WayFinder" "leading" "[I") ∈ m_tall := m_in 60 (by decide +kernel) rfl
theorem mw_61 : (Jvm.Cond.laysFinal "RelayPassages$WayFinder" "RelayPassages$WayFinder" "way" "[I") ∈ m_tall := m_in 61 (by decide +kernel) rfl
theorem mw_63 : (Jvm.Cond.laysFinal "RelayPassages$WayFinder" "RelayPassages$WayFinder" "leading" "[I") ∈ m_tall := m_in 63 (by decide +kernel) rfl
theorem mw_66 : (Jvm.Cond.classLink "RelayPassages" (23 : Nat) "RelayPassages$Parcel") ∈ m_tall := m_in 66 (by decide +kernel) rfl
theorem mw_67 : (Jvm.Cond.arrayOver (Jvm.ClassFile.FieldType.object "RelayPassages$Parcel")) ∈ m_tall := m_in 67 (by decide +kernel) rfl
theorem mw_68 : (Jvm.Cond.fieldLink "RelayPassages" (10 : Nat) "RelayPassages" "network" "LRelayPassages$Network;") ∈ m_tall := m_in 68 (by decide +kernel) rfl
theorem mw_69 : (Jvm.Cond.fieldLink "RelayPassages" (19 : Nat) "RelayPassages" "finder" "LRelayPassages$WayFinder;") ∈ m_tall := m_in 69 (by decide +kernel) rfl
theorem mw_70 : (Jvm.Cond.fieldLink "RelayPassages" (25 : Nat) "RelayPassages" "parcels" "[LRelayPassages$Parcel;") ∈ m_tall := m_in 70 (by decide +kernel) rfl
theorem mw_71 : (Jvm.Cond.fieldLink "RelayPassages" (29 : Nat) "RelayPassages" "given" "I") ∈ m_tall := m_in 71 (by decide +kernel) rfl
theorem mw_72 : (Jvm.Cond.fieldLink "RelayPassages" (33 : Nat) "RelayPassages" "now" "I") ∈ m_tall := m_in 72 (by decide +kernel) rfl
theorem mw_73 : (Jvm.Cond.laysFinal "RelayPassages" "RelayPassages" "network" "LRelayPassages$Network;") ∈ m_tall := m_in 73 (by decide +kernel) rfl
theorem mw_75 : (Jvm.Cond.laysFinal "RelayPassages" "RelayPassages" "finder" "LRelayPassages$WayFinder;") ∈ m_tall := m_in 75 (by decide +kernel) rfl
theorem mw_77 : (Jvm.Cond.laysFinal "RelayPassages" "RelayPassages" "parcels" "[LRelayPassages$Parcel;") ∈ m_tall := m_in 77 (by decide +kernel) rfl
theorem mw_79 : (Jvm.Cond.lays "RelayPassages" "RelayPassages" "given" "I") ∈ m_tall := m_in 79 (by decide +kernel) rfl
theorem mw_81 : (Jvm.Cond.lays "RelayPassages" "RelayPassages" "now" "I") ∈ m_tall := m_in 81 (by decide +kernel) rfl
theorem mw_84 : (Jvm.Cond.methodLink "RelayPassagesLaw" (58 : Nat) ({ cls := "RelayPassages", name := "now", desc := "()I" } : Jvm.MethodName)) ∈ m_tall := m_in 84 (by decide +kernel) rfl
theorem mw_85 : (Jvm.Cond.instanceMethod ({ cls := "RelayPassages", name := "now", desc := "()I" } : Jvm.MethodName)) ∈ m_tall := m_in 85 (by decide +kernel) rfl
theorem mw_86 : (Jvm.Cond.selects "RelayPassages" ({ cls := "RelayPassages", name := "now", desc := "()I" } : Jvm.MethodName) ({ cls := "RelayPassages", name := "now", desc := "()I" } : Jvm.MethodName)) ∈ m_tall := m_in 86 (by decide +kernel) rfl
theorem mw_87 : (Jvm.Cond.code ({ cls := "RelayPassages", name := "now", desc := "()I" } : Jvm.MethodName) prog_1_method_4_code (1 : Nat) (Option.some Jvm.ClassFile.FieldType.int)) ∈ m_tall := m_in 87 (by decide +kernel) rfl
theorem mw_88 : (Jvm.Cond.methodLink "RelayPassagesLaw" (80 : Nat) ({ cls := "RelayPassages", name := "state", desc := "(I)I" } : Jvm.MethodName)) ∈ m_tall := m_in 88 (by decide +kernel) rfl
theorem mw_89 : (Jvm.Cond.instanceMethod ({ cls := "RelayPassages", name := "state", desc := "(I)I" } : Jvm.MethodName)) ∈ m_tall := m_in 89 (by decide +kernel) rfl
theorem mw_90 : (Jvm.Cond.selects "RelayPassages" ({ cls := "RelayPassages", name := "state", desc := "(I)I" } : Jvm.MethodName) ({ cls := "RelayPassages", name := "state", desc := "(I)I" } : Jvm.MethodName)) ∈ m_tall := m_in 90 (by decide +kernel) rfl
theorem mw_91 : (Jvm.Cond.code ({ cls := "RelayPassages", name := "state", desc := "(I)I" } : Jvm.MethodName) prog_1_method_10_code (3 : Nat) (Option.some Jvm.ClassFile.FieldType.int)) ∈ m_tall := m_in 91 (by decide +kernel) rfl
theorem mw_92 : (Jvm.Cond.methodLink "RelayPassages" (97 : Nat) ({ cls := "RelayPassages", name := "parcelOf", desc := "(I)LRelayPassages$Parcel;" } : Jvm.MethodName)) ∈ m_tall := m_in 92 (by decide +kernel) rfl
theorem mw_94 : (Jvm.Cond.instanceMethod ({ cls := "RelayPassages", name := "parcelOf", desc := "(I)LRelayPassages$Parcel;" } : Jvm.MethodName)) ∈ m_tall := m_in 94 (by decide +kernel) rfl
theorem mw_95 : (Jvm.Cond.code ({ cls := "RelayPassages", name := "parcelOf", desc := "(I)LRelayPassages$Parcel;" } : Jvm.MethodName) prog_1_method_20_code (2 : Nat) (Option.some (Jvm.ClassFile.FieldType.object "RelayPassages$Parcel"))) ∈ m_tall := m_in 95 (by decide +kernel) rfl
theorem mw_96 : (Jvm.Cond.methodLink "RelayPassages" (131 : Nat) ({ cls := "RelayPassages$Parcel", name := "stateAt", desc := "(I)I" } : Jvm.MethodName)) ∈ m_tall := m_in 96 (by decide +kernel) rfl
theorem mw_97 : (Jvm.Cond.instanceMethod ({ cls := "RelayPassages$Parcel", name := "stateAt", desc := "(I)I" } : Jvm.MethodName)) ∈ m_tall := m_in 97 (by decide +kernel) rfl
theorem mw_98 : (Jvm.Cond.selects "RelayPassages$Parcel" ({ cls := "RelayPassages$Parcel", name := "stateAt", desc := "(I)I" } : Jvm.MethodName) ({ cls := "RelayPassages$Parcel", name := "stateAt", desc := "(I)I" } : Jvm.MethodName)) ∈ m_tall := m_in 98 (by decide +kernel) rfl
theorem mw_99 : (Jvm.Cond.code ({ cls := "RelayPassages$Parcel", name := "stateAt", desc := "(I)I" } : Jvm.MethodName) prog_3_method_2_code (2 : Nat) (Option.some Jvm.ClassFile.FieldType.int)) ∈ m_tall := m_in 99 (by decide +kernel) rfl
theorem mw_100 : (Jvm.Cond.methodLink "RelayPassagesLaw" (84 : Nat) ({ cls := "RelayPassages", name := "where", desc := "(I)I" } : Jvm.MethodName)) ∈ m_tall := m_in 100 (by decide +kernel) rfl
theorem mw_101 : (Jvm.Cond.instanceMethod ({ cls := "RelayPassages", name := "where", desc := "(I)I" } : Jvm.MethodName)) ∈ m_tall := m_in 101 (by decide +kernel) rfl
theorem mw_102 : (Jvm.Cond.selects "RelayPassages" ({ cls := "RelayPassages", name := "where", desc := "(I)I" } : Jvm.MethodName) ({ cls := "RelayPassages", name := "where", desc := "(I)I" } : Jvm.MethodName)) ∈ m_tall := m_in 102 (by decide +kernel) rfl
theorem mw_103 : (Jvm.Cond.code ({ cls := "RelayPassages", name := "where", desc := "(I)I" } : Jvm.MethodName) prog_1_method_11_code (3 : Nat) (Option.some Jvm.ClassFile.FieldType.int)) ∈ m_tall := m_in 103 (by decide +kernel) rfl
theorem mw_104 : (Jvm.Cond.methodLink "RelayPassages" (138 : Nat) ({ cls := "RelayPassages$Parcel", name := "nodeFor", desc := "(I)I" } : Jvm.MethodName)) ∈ m_tall := m_in 104 (by decide +kernel) rfl
theorem mw_105 : (Jvm.Cond.instanceMethod ({ cls := "RelayPassages$Parcel", name := "nodeFor", desc := "(I)I" } : Jvm.MethodName)) ∈ m_tall := m_in 105 (by decide +kernel) rfl
theorem mw_106 : (Jvm.Cond.selects "RelayPassages$Parcel" ({ cls := "RelayPassages$Parcel", name := "nodeFor", desc := "(I)I" } : Jvm.MethodName) ({ cls := "RelayPassages$Parcel", name := "nodeFor", desc := "(I)I" } : Jvm.MethodName)) ∈ m_tall := m_in 106 (by decide +kernel) rfl
theorem mw_107 : (Jvm.Cond.code ({ cls := "RelayPassages$Parcel", name := "nodeFor", desc := "(I)I" } : Jvm.MethodName) prog_3_method_4_code (2 : Nat) (Option.some Jvm.ClassFile.FieldType.int)) ∈ m_tall := m_in 107 (by decide +kernel) rfl
theorem mw_108 : (Jvm.Cond.methodLink "RelayPassagesLaw" (88 : Nat) ({ cls := "RelayPassages", name := "arrival", desc := "(I)I" } : Jvm.MethodName)) ∈ m_tall := m_in 108 (by decide +kernel) rfl
theorem mw_109 : (Jvm.Cond.instanceMethod ({ cls := "RelayPassages", name := "arrival", desc := "(I)I" } : Jvm.MethodName)) ∈ m_tall := m_in 109 (by decide +kernel) rfl
theorem mw_110 : (Jvm.Cond.selects "RelayPassages" ({ cls := "RelayPassages", name := "arrival", desc := "(I)I" } : Jvm.MethodName) ({ cls := "RelayPassages", name := "arrival", desc := "(I)I" } : Jvm.MethodName)) ∈ m_tall := m_in 110 (by decide +kernel) rfl
theorem mw_111 : (Jvm.Cond.code ({ cls := "RelayPassages", name := "arrival", desc := "(I)I" } : Jvm.MethodName) prog_1_method_12_code (3 : Nat) (Option.some Jvm.ClassFile.FieldType.int)) ∈ m_tall := m_in 111 (by decide +kernel) rfl
theorem mw_112 : (Jvm.Cond.methodLink "RelayPassagesLaw" (92 : Nat) ({ cls := "RelayPassages", name := "step", desc := "(II)I" } : Jvm.MethodName)) ∈ m_tall := m_in 112 (by decide +kernel) rfl
theorem mw_113 : (Jvm.Cond.instanceMethod ({ cls := "RelayPassages", name := "step", desc := "(II)I" } : Jvm.MethodName)) ∈ m_tall := m_in 113 (by decide +kernel) rfl
theorem mw_114 : (Jvm.Cond.selects "RelayPassages" ({ cls := "RelayPassages", name := "step", desc := "(II)I" } : Jvm.MethodName) ({ cls := "RelayPassages", name := "step", desc := "(II)I" } : Jvm.MethodName)) ∈ m_tall := m_in 114 (by decide +kernel) rfl
theorem mw_115 : (Jvm.Cond.code ({ cls := "RelayPassages", name := "step", desc := "(II)I" } : Jvm.MethodName) prog_1_method_13_code (4 : Nat) (Option.some Jvm.ClassFile.FieldType.int)) ∈ m_tall := m_in 115 (by decide +kernel) rfl
theorem mw_116 : (Jvm.Cond.methodLink "RelayPassagesLaw" (96 : Nat) ({ cls := "RelayPassages", name := "linkUsed", desc := "(III)I" } : Jvm.MethodName)) ∈ m_tall := m_in 116 (by decide +kernel) rfl
theorem mw_117 : (Jvm.Cond.instanceMethod ({ cls := "RelayPassages", name := "linkUsed", desc := "(III)I" } : Jvm.MethodName)) ∈ m_tall := m_in 117 (by decide +kernel) rfl
theorem mw_118 : (Jvm.Cond.selects "RelayPassages" ({ cls := "RelayPassages", name := "linkUsed", desc := "(III)I" } : Jvm.MethodName) ({ cls := "RelayPassages", name := "linkUsed", desc := "(III)I" } : Jvm.MethodName)) ∈ m_tall := m_in 118 (by decide +kernel) rfl
theorem mw_119 : (Jvm.Cond.code ({ cls := "RelayPassages", name := "linkUsed", desc := "(III)I" } : Jvm.MethodName) prog_1_method_14_code (4 : Nat) (Option.some Jvm.ClassFile.FieldType.int)) ∈ m_tall := m_in 119 (by decide +kernel) rfl
theorem mw_120 : (Jvm.Cond.methodLink "RelayPassages" (141 : Nat) ({ cls := "RelayPassages$Network", name := "isPair", desc := "(II)Z" } : Jvm.MethodName)) ∈ m_tall := m_in 120 (by decide +kernel) rfl
theorem mw_121 : (Jvm.Cond.instanceMethod ({ cls := "RelayPassages$Network", name := "isPair", desc := "(II)Z" } : Jvm.MethodName)) ∈ m_tall := m_in 121 (by decide +kernel) rfl
theorem mw_122 : (Jvm.Cond.selects "RelayPassages$Network" ({ cls := "RelayPassages$Network", name := "isPair", desc := "(II)Z" } : Jvm.MethodName) ({ cls := "RelayPassages$Network", name := "isPair", desc := "(II)Z" } : Jvm.MethodName)) ∈ m_tall := m_in 122 (by decide +kernel) rfl
theorem mw_123 : (Jvm.Cond.code ({ cls := "RelayPassages$Network", name := "isPair", desc := "(II)Z" } : Jvm.MethodName) prog_2_method_4_code (3 : Nat) (Option.some Jvm.ClassFile.FieldType.boolean)) ∈ m_tall := m_in 123 (by decide +kernel) rfl
theorem mw_124 : (Jvm.Cond.methodLink "RelayPassages$Network" (32 : Nat) ({ cls := "RelayPassages$Network", name := "isNode", desc := "(I)Z" } : Jvm.MethodName)) ∈ m_tall := m_in 124 (by decide +kernel) rfl
theorem mw_125 : (Jvm.Cond.instanceMethod ({ cls := "RelayPassages$Network", name := "isNode", desc := "(I)Z" } : Jvm.MethodName)) ∈ m_tall := m_in 125 (by decide +kernel) rfl
theorem mw_126 : (Jvm.Cond.selects "RelayPassages$Network" ({ cls := "RelayPassages$Network", name := "isNode", desc := "(I)Z" } : Jvm.MethodName) ({ cls := "RelayPassages$Network", name := "isNode", desc := "(I)Z" } : Jvm.MethodName)) ∈ m_tall := m_in 126 (by decide +kernel) rfl
theorem mw_127 : (Jvm.Cond.code ({ cls := "RelayPassages$Network", name := "isNode", desc := "(I)Z" } : Jvm.MethodName) prog_2_method_3_code (2 : Nat) (Option.some Jvm.ClassFile.FieldType.boolean)) ∈ m_tall := m_in 127 (by decide +kernel) rfl
theorem mw_128 : (Jvm.Cond.methodLinkNest "RelayPassages$Network" (28 : Nat) ({ cls := "RelayPassages", name := "isInSet", desc := "(II)Z" } : Jvm.MethodName) "RelayPassages") ∈ m_tall := m_in 128 (by decide +kernel) rfl
theorem mw_129 : (Jvm.Cond.static ({ cls := "RelayPassages", name := "isInSet", desc := "(II)Z" } : Jvm.MethodName)) ∈ m_tall := m_in 129 (by decide +kernel) rfl
theorem mw_130 : (Jvm.Cond.code ({ cls := "RelayPassages", name := "isInSet", desc := "(II)Z" } : Jvm.MethodName) prog_1_method_19_code (2 : Nat) (Option.some Jvm.ClassFile.FieldType.boolean)) ∈ m_tall := m_in 130 (by decide +kernel) rfl
theorem mw_131 : (Jvm.Cond.methodLink "RelayPassages" (145 : Nat) ({ cls := "RelayPassages", name := "isTick", desc := "(I)Z" } : Jvm.MethodName)) ∈ m_tall := m_in 131 (by decide +kernel) rfl
theorem mw_132 : (Jvm.Cond.static ({ cls := "RelayPassages", name := "isTick", desc := "(I)Z" } : Jvm.MethodName)) ∈ m_tall := m_in 132 (by decide +kernel) rfl
theorem mw_133 : (Jvm.Cond.code ({ cls := "RelayPassages", name := "isTick", desc := "(I)Z" } : Jvm.MethodName) prog_1_method_18_code (1 : Nat) (Option.some Jvm.ClassFile.FieldType.boolean)) ∈ m_tall := m_in 133 (by decide +kernel) rfl
theorem mw_134 : (Jvm.Cond.methodLink "RelayPassages" (148 : Nat) ({ cls := "RelayPassages$Network", name := "usersOfLink", desc := "(III)I" } : Jvm.MethodName)) ∈ m_tall := m_in 134 (by decide +kernel) rfl
theorem mw_135 : (Jvm.Cond.instanceMethod ({ cls := "RelayPassages$Network", name := "usersOfLink", desc := "(III)I" } : Jvm.MethodName)) ∈ m_tall := m_in 135 (by decide +kernel) rfl
theorem mw_136 : (Jvm.Cond.selects "RelayPassages$Network" ({ cls := "RelayPassages$Network", name := "usersOfLink", desc := "(III)I" } : Jvm.MethodName) ({ cls := "RelayPassages$Network", name := "usersOfLink", desc := "(III)I" } : Jvm.MethodName)) ∈ m_tall := m_in 136 (by decide +kernel) rfl
theorem mw_137 : (Jvm.Cond.code ({ cls := "RelayPassages$Network", name := "usersOfLink", desc := "(III)I" } : Jvm.MethodName) prog_2_method_9_code (4 : Nat) (Option.some Jvm.ClassFile.FieldType.int)) ∈ m_tall := m_in 137 (by decide +kernel) rfl
theorem mw_138 : (Jvm.Cond.methodLink "RelayPassages$Network" (39 : Nat) ({ cls := "RelayPassages$Network", name := "cell", desc := "(II)I" } : Jvm.MethodName)) ∈ m_tall := m_in 138 (by decide +kernel) rfl
theorem mw_139 : (Jvm.Cond.static ({ cls := "RelayPassages$Network", name := "cell", desc := "(II)I" } : Jvm.MethodName)) ∈ m_tall := m_in 139 (by decide +kernel) rfl
theorem mw_140 : (Jvm.Cond.code ({ cls := "RelayPassages$Network", name := "cell", desc := "(II)I" } : Jvm.MethodName) prog_2_method_2_code (2 : Nat) (Option.some Jvm.ClassFile.FieldType.int)) ∈ m_tall := m_in 140 (by decide +kernel) rfl
theorem mw_141 : (Jvm.Cond.methodLink "RelayPassagesLaw" (100 : Nat) ({ cls := "RelayPassages", name := "stored", desc := "(II)I" } : Jvm.MethodName)) ∈ m_tall := m_in 141 (by decide +kernel) rfl
theorem mw_142 : (Jvm.Cond.instanceMethod ({ cls := "RelayPassages", name := "stored", desc := "(II)I" } : Jvm.MethodName)) ∈ m_tall := m_in 142 (by decide +kernel) rfl
theorem mw_143 : (Jvm.Cond.selects "RelayPassages" ({ cls := "RelayPassages", name := "stored", desc := "(II)I" } : Jvm.MethodName) ({ cls := "RelayPassages", name := "stored", desc := "(II)I" } : Jvm.MethodName)) ∈ m_tall := m_in 143 (by decide +kernel) rfl
theorem mw_144 : (Jvm.Cond.code ({ cls := "RelayPassages", name := "stored", desc := "(II)I" } : Jvm.MethodName) prog_1_method_15_code (3 : Nat) (Option.some Jvm.ClassFile.FieldType.int)) ∈ m_tall := m_in 144 (by decide +kernel) rfl
theorem mw_145 : (Jvm.Cond.methodLink "RelayPassages" (45 : Nat) ({ cls := "RelayPassages$Network", name := "isNode", desc := "(I)Z" } : Jvm.MethodName)) ∈ m_tall := m_in 145 (by decide +kernel) rfl
theorem mw_146 : (Jvm.Cond.methodLink "RelayPassages" (152 : Nat) ({ cls := "RelayPassages$Network", name := "usersOfPlaces", desc := "(II)I" } : Jvm.MethodName)) ∈ m_tall := m_in 146 (by decide +kernel) rfl
theorem mw_147 : (Jvm.Cond.instanceMethod ({ cls := "RelayPassages$Network", name := "usersOfPlaces", desc := "(II)I" } : Jvm.MethodName)) ∈ m_tall := m_in 147 (by decide +kernel) rfl
theorem mw_148 : (Jvm.Cond.selects "RelayPassages$Network" ({ cls := "RelayPassages$Network", name := "usersOfPlaces", desc := "(II)I" } : Jvm.MethodName) ({ cls := "RelayPassages$Network", name := "usersOfPlaces", desc := "(II)I" } : Jvm.MethodName)) ∈ m_tall := m_in 148 (by decide +kernel) rfl
theorem mw_149 : (Jvm.Cond.code ({ cls := "RelayPassages$Network", name := "usersOfPlaces", desc := "(II)I" } : Jvm.MethodName) prog_2_method_10_code (3 : Nat) (Option.some Jvm.ClassFile.FieldType.int)) ∈ m_tall := m_in 149 (by decide +kernel) rfl
theorem mw_150 : (Jvm.Cond.methodLink "RelayPassagesLaw" (104 : Nat) ({ cls := "RelayPassages", name := "open", desc := "(III)Z" } : Jvm.MethodName)) ∈ m_tall := m_in 150 (by decide +kernel) rfl
theorem mw_151 : (Jvm.Cond.instanceMethod ({ cls := "RelayPassages", name := "open", desc := "(III)Z" } : Jvm.MethodName)) ∈ m_tall := m_in 151 (by decide +kernel) rfl
theorem mw_152 : (Jvm.Cond.selects "RelayPassages" ({ cls := "RelayPassages", name := "open", desc := "(III)Z" } : Jvm.MethodName) ({ cls := "RelayPassages", name := "open", desc := "(III)Z" } : Jvm.MethodName)) ∈ m_tall := m_in 152 (by decide +kernel) rfl
theorem mw_153 : (Jvm.Cond.code ({ cls := "RelayPassages", name := "open", desc := "(III)Z" } : Jvm.MethodName) prog_1_method_16_code (4 : Nat) (Option.some Jvm.ClassFile.FieldType.boolean)) ∈ m_tall := m_in 153 (by decide +kernel) rfl
theorem mw_154 : (Jvm.Cond.methodLink "RelayPassages" (73 : Nat) ({ cls := "RelayPassages$Network", name := "isOpenWithin", desc := "(IIII)Z" } : Jvm.MethodName)) ∈ m_tall := m_in 154 (by decide +kernel) rfl
theorem mw_155 : (Jvm.Cond.instanceMethod ({ cls := "RelayPassages$Network", name := "isOpenWithin", desc := "(IIII)Z" } : Jvm.MethodName)) ∈ m_tall := m_in 155 (by decide +kernel) rfl
theorem mw_156 : (Jvm.Cond.selects "RelayPassages$Network" ({ cls := "RelayPassages$Network", name := "isOpenWithin", desc := "(IIII)Z" } : Jvm.MethodName) ({ cls := "RelayPassages$Network", name := "isOpenWithin", desc := "(IIII)Z" } : Jvm.MethodName)) ∈ m_tall := m_in 156 (by decide +kernel) rfl
theorem mw_157 : (Jvm.Cond.code ({ cls := "RelayPassages$Network", name := "isOpenWithin", desc := "(IIII)Z" } : Jvm.MethodName) prog_2_method_6_code (6 : Nat) (Option.some Jvm.ClassFile.FieldType.boolean)) ∈ m_tall := m_in 157 (by decide +kernel) rfl
theorem mw_158 : (Jvm.Cond.methodLink "RelayPassagesLaw" (109 : Nat) ({ cls := "RelayPassages", name := "free", desc := "(II)I" } : Jvm.MethodName)) ∈ m_tall := m_in 158 (by decide +kernel) rfl
theorem mw_159 : (Jvm.Cond.instanceMethod ({ cls := "RelayPassages", name := "free", desc := "(II)I" } : Jvm.MethodName)) ∈ m_tall := m_in 159 (by decide +kernel) rfl
theorem mw_160 : (Jvm.Cond.selects "RelayPassages" ({ cls := "RelayPassages", name := "free", desc := "(II)I" } : Jvm.MethodName) ({ cls := "RelayPassages", name := "free", desc := "(II)I" } : Jvm.MethodName)) ∈ m_tall := m_in 160 (by decide +kernel) rfl
theorem mw_161 : (Jvm.Cond.code ({ cls := "RelayPassages", name := "free", desc := "(II)I" } : Jvm.MethodName) prog_1_method_17_code (3 : Nat) (Option.some Jvm.ClassFile.FieldType.int)) ∈ m_tall := m_in 161 (by decide +kernel) rfl
theorem mw_162 : (Jvm.Cond.methodLink "RelayPassages" (156 : Nat) ({ cls := "RelayPassages$Network", name := "placesLeft", desc := "(II)I" } : Jvm.MethodName)) ∈ m_tall := m_in 162 (by decide +kernel) rfl
theorem mw_163 : (Jvm.Cond.instanceMethod ({ cls := "RelayPassages$Network", name := "placesLeft", desc := "(II)I" } : Jvm.MethodName)) ∈ m_tall := m_in 163 (by decide +kernel) rfl
theorem mw_164 : (Jvm.Cond.selects "RelayPassages$Network" ({ cls := "RelayPassages$Network", name := "placesLeft", desc := "(II)I" } : Jvm.MethodName) ({ cls := "RelayPassages$Network", name := "placesLeft", desc := "(II)I" } : Jvm.MethodName)) ∈ m_tall := m_in 164 (by decide +kernel) rfl
theorem mw_165 : (Jvm.Cond.code ({ cls := "RelayPassages$Network", name := "placesLeft", desc := "(II)I" } : Jvm.MethodName) prog_2_method_11_code (3 : Nat) (Option.some Jvm.ClassFile.FieldType.int)) ∈ m_tall := m_in 165 (by decide +kernel) rfl
theorem mw_166 : (Jvm.Cond.methodLink "RelayPassagesLaw" (45 : Nat) ({ cls := "RelayPassagesLaw", name := "node", desc := "(LRelayPassages;II[J)I" } : Jvm.MethodName)) ∈ m_tall := m_in 166 (by decide +kernel) rfl
theorem mw_167 : (Jvm.Cond.static ({ cls := "RelayPassagesLaw", name := "node", desc := "(LRelayPassages;II[J)I" } : Jvm.MethodName)) ∈ m_tall := m_in 167 (by decide +kernel) rfl
theorem mw_168 : (Jvm.Cond.codeWith ({ cls := "RelayPassagesLaw", name := "node", desc := "(LRelayPassages;II[J)I" } : Jvm.MethodName) method_3_code (5 : Nat) (Option.some Jvm.ClassFile.FieldType.int) [((0 : Nat), (10 : Nat), (13 : Nat), (13 : Nat)), ((0 : Nat), (10 : Nat), (17 : Nat), (15 : Nat))]) ∈ m_tall := m_in 168 (by decide +kernel) rfl
theorem mw_169 : (Jvm.Cond.classLink "RelayPassagesLaw" (13 : Nat) "java/lang/IllegalArgumentException") ∈ m_tall := m_in 169 (by decide +kernel) rfl
theorem mw_170 : (Jvm.Cond.classLink "RelayPassagesLaw" (15 : Nat) "java/lang/IllegalStateException") ∈ m_tall := m_in 170 (by decide +kernel) rfl
theorem mw_171 : (Jvm.Cond.methodLink "RelayPassagesLaw" (7 : Nat) ({ cls := "RelayPassages", name := "node", desc := "(II)I" } : Jvm.MethodName)) ∈ m_tall := m_in 171 (by decide +kernel) rfl
theorem mw_172 : (Jvm.Cond.instanceMethod ({ cls := "RelayPassages", name := "node", desc := "(II)I" } : Jvm.MethodName)) ∈ m_tall := m_in 172 (by decide +kernel) rfl
theorem mw_173 : (Jvm.Cond.selects "RelayPassages" ({ cls := "RelayPassages", name := "node", desc := "(II)I" } : Jvm.MethodName) ({ cls := "RelayPassages", name := "node", desc := "(II)I" } : Jvm.MethodName)) ∈ m_tall := m_in 173 (by decide +kernel) rfl
theorem mw_174 : (Jvm.Cond.code ({ cls := "RelayPassages", name := "node", desc := "(II)I" } : Jvm.MethodName) prog_1_method_2_code (3 : Nat) (Option.some Jvm.ClassFile.FieldType.int)) ∈ m_tall := m_in 174 (by decide +kernel) rfl
theorem mw_175 : (Jvm.Cond.classLink "RelayPassages" (36 : Nat) "java/lang/IllegalArgumentException") ∈ m_tall := m_in 175 (by decide +kernel) rfl
theorem mw_177 : (Jvm.Cond.castable "java/lang/IllegalArgumentException" "java/lang/IllegalArgumentException") ∈ m_tall := m_in 177 (by decide +kernel) rfl
theorem mw_216 : (Jvm.Cond.stringRef "RelayPassages" (38 : Nat) "a node is 0 .. 7") ∈ m_tall := m_in 216 (by decide +kernel) rfl
theorem mw_243 : (Jvm.Cond.stringRef "RelayPassages" (43 : Nat) "a node has 0 .. 4 places") ∈ m_tall := m_in 243 (by decide +kernel) rfl
theorem mw_244 : (Jvm.Cond.classLink "RelayPassages" (49 : Nat) "java/lang/IllegalStateException") ∈ m_tall := m_in 244 (by decide +kernel) rfl
theorem mw_246 : (Jvm.Cond.castable "java/lang/IllegalStateException" "java/lang/IllegalStateException") ∈ m_tall := m_in 246 (by decide +kernel) rfl
theorem mw_253 : (Jvm.Cond.stringRef "RelayPassages" (51 : Nat) "there is such a node") ∈ m_tall := m_in 253 (by decide +kernel) rfl
theorem mw_260 : (Jvm.Cond.stringRef "RelayPassages" (57 : Nat) "a contact was made") ∈ m_tall := m_in 260 (by decide +kernel) rfl
theorem mw_261 : (Jvm.Cond.methodLink "RelayPassages" (59 : Nat) ({ cls := "RelayPassages$Network", name := "makeNode", desc := "(II)V" } : Jvm.MethodName)) ∈ m_tall := m_in 261 (by decide +kernel) rfl
theorem mw_262 : (Jvm.Cond.instanceMethod ({ cls := "RelayPassages$Network", name := "makeNode", desc := "(II)V" } : Jvm.MethodName)) ∈ m_tall := m_in 262 (by decide +kernel) rfl
theorem mw_263 : (Jvm.Cond.selects "RelayPassages$Network" ({ cls := "RelayPassages$Network", name := "makeNode", desc := "(II)V" } : Jvm.MethodName) ({ cls := "RelayPassages$Network", name := "makeNode", desc := "(II)V" } : Jvm.MethodName)) ∈ m_tall := m_in 263 (by decide +kernel) rfl
theorem mw_264 : (Jvm.Cond.code ({ cls := "RelayPassages$Network", name := "makeNode", desc := "(II)V" } : Jvm.MethodName) prog_2_method_5_code (3 : Nat) (Option.none : Option Jvm.ClassFile.FieldType)) ∈ m_tall := m_in 264 (by decide +kernel) rfl
theorem mw_265 : (Jvm.Cond.methodLink "RelayPassagesLaw" (54 : Nat) ({ cls := "RelayPassagesLaw", name := "contact", desc := "(LRelayPassages;IIII[J)I" } : Jvm.MethodName)) ∈ m_tall := m_in 265 (by decide +kernel) rfl
theorem mw_266 : (Jvm.Cond.static ({ cls := "RelayPassagesLaw", name := "contact", desc := "(LRelayPassages;IIII[J)I" } : Jvm.MethodName)) ∈ m_tall := m_in 266 (by decide +kernel) rfl
theorem mw_267 : (Jvm.Cond.codeWith ({ cls := "RelayPassagesLaw", name := "contact", desc := "(LRelayPassages;IIII[J)I" } : Jvm.MethodName) method_4_code (7 : Nat) (Option.some Jvm.ClassFile.FieldType.int) [((0 : Nat), (14 : Nat), (17 : Nat), (13 : Nat)), ((0 : Nat), (14 : Nat), (21 : Nat), (15 : Nat))]) ∈ m_tall := m_in 267 (by decide +kernel) rfl
theorem mw_268 : (Jvm.Cond.methodLink "RelayPassagesLaw" (17 : Nat) ({ cls := "RelayPassages", name := "contact", desc := "(IIII)I" } : Jvm.MethodName)) ∈ m_tall := m_in 268 (by decide +kernel) rfl
theorem mw_269 : (Jvm.Cond.instanceMethod ({ cls := "RelayPassages", name := "contact", desc := "(IIII)I" } : Jvm.MethodName)) ∈ m_tall := m_in 269 (by decide +kernel) rfl
theorem mw_270 : (Jvm.Cond.selects "RelayPassages" ({ cls := "RelayPassages", name := "contact", desc := "(IIII)I" } : Jvm.MethodName) ({ cls := "RelayPassages", name := "contact", desc := "(IIII)I" } : Jvm.MethodName)) ∈ m_tall := m_in 270 (by decide +kernel) rfl
theorem mw_271 : (Jvm.Cond.code ({ cls := "RelayPassages", name := "contact", desc := "(IIII)I" } : Jvm.MethodName) prog_1_method_3_code (5 : Nat) (Option.some Jvm.ClassFile.FieldType.int)) ∈ m_tall := m_in 271 (by decide +kernel) rfl
theorem mw_272 : (Jvm.Cond.methodLink "RelayPassages" (66 : Nat) ({ cls := "RelayPassages", name := "checkPair", desc := "(II)V" } : Jvm.MethodName)) ∈ m_tall := m_in 272 (by decide +kernel) rfl
theorem mw_274 : (Jvm.Cond.instanceMethod ({ cls := "RelayPassages", name := "checkPair", desc := "(II)V" } : Jvm.MethodName)) ∈ m_tall := m_in 274 (by decide +kernel) rfl
theorem mw_275 : (Jvm.Cond.code ({ cls := "RelayPassages", name := "checkPair", desc := "(II)V" } : Jvm.MethodName) prog_1_method_21_code (3 : Nat) (Option.none : Option Jvm.ClassFile.FieldType)) ∈ m_tall := m_in 275 (by decide +kernel) rfl
theorem mw_276 : (Jvm.Cond.stringRef "RelayPassages" (159 : Nat) "these are no two different nodes") ∈ m_tall := m_in 276 (by decide +kernel) rfl
theorem mw_277 : (Jvm.Cond.stringRef "RelayPassages" (69 : Nat) "no ticks for a contact") ∈ m_tall := m_in 277 (by decide +kernel) rfl
theorem mw_278 : (Jvm.Cond.stringRef "RelayPassages" (71 : Nat) "24 contacts were made") ∈ m_tall := m_in 278 (by decide +kernel) rfl
theorem mw_279 : (Jvm.Cond.stringRef "RelayPassages" (77 : Nat) "the pair is open in one of these ticks") ∈ m_tall := m_in 279 (by decide +kernel) rfl
theorem mw_280 : (Jvm.Cond.methodLink "RelayPassages" (79 : Nat) ({ cls := "RelayPassages$Network", name := "makeContact", desc := "(IIII)V" } : Jvm.MethodName)) ∈ m_tall := m_in 280 (by decide +kernel) rfl
theorem mw_281 : (Jvm.Cond.instanceMethod ({ cls := "RelayPassages$Network", name := "makeContact", desc := "(IIII)V" } : Jvm.MethodName)) ∈ m_tall := m_in 281 (by decide +kernel) rfl
theorem mw_282 : (Jvm.Cond.selects "RelayPassages$Network" ({ cls := "RelayPassages$Network", name := "makeContact", desc := "(IIII)V" } : Jvm.MethodName) ({ cls := "RelayPassages$Network", name := "makeContact", desc := "(IIII)V" } : Jvm.MethodName)) ∈ m_tall := m_in 282 (by decide +kernel) rfl
theorem mw_283 : (Jvm.Cond.code ({ cls := "RelayPassages$Network", name := "makeContact", desc := "(IIII)V" } : Jvm.MethodName) prog_2_method_7_code (6 : Nat) (Option.none : Option Jvm.ClassFile.FieldType)) ∈ m_tall := m_in 283 (by decide +kernel) rfl
theorem mw_284 : (Jvm.Cond.methodLink "RelayPassagesLaw" (62 : Nat) ({ cls := "RelayPassagesLaw", name := "book", desc := "(LRelayPassages;III[J)I" } : Jvm.MethodName)) ∈ m_tall := m_in 284 (by decide +kernel) rfl
theorem mw_285 : (Jvm.Cond.static ({ cls := "RelayPassagesLaw", name := "book", desc := "(LRelayPassages;III[J)I" } : Jvm.MethodName)) ∈ m_tall := m_in 285 (by decide +kernel) rfl
theorem mw_286 : (Jvm.Cond.codeWith ({ cls := "RelayPassagesLaw", name := "book", desc := "(LRelayPassages;III[J)I" } : Jvm.MethodName) method_5_code (6 : Nat) (Option.some Jvm.ClassFile.FieldType.int) [((0 : Nat), (12 : Nat), (15 : Nat), (13 : Nat)), ((0 : Nat), (12 : Nat), (19 : Nat), (15 : Nat))]) ∈ m_tall := m_in 286 (by decide +kernel) rfl
theorem mw_287 : (Jvm.Cond.methodLink "RelayPassagesLaw" (21 : Nat) ({ cls := "RelayPassages", name := "book", desc := "(III)I" } : Jvm.MethodName)) ∈ m_tall := m_in 287 (by decide +kernel) rfl
theorem mw_288 : (Jvm.Cond.instanceMethod ({ cls := "RelayPassages", name := "book", desc := "(III)I" } : Jvm.MethodName)) ∈ m_tall := m_in 288 (by decide +kernel) rfl
theorem mw_289 : (Jvm.Cond.selects "RelayPassages" ({ cls := "RelayPassages", name := "book", desc := "(III)I" } : Jvm.MethodName) ({ cls := "RelayPassages", name := "book", desc := "(III)I" } : Jvm.MethodName)) ∈ m_tall := m_in 289 (by decide +kernel) rfl
theorem mw_290 : (Jvm.Cond.code ({ cls := "RelayPassages", name := "book", desc := "(III)I" } : Jvm.MethodName) prog_1_method_5_code (6 : Nat) (Option.some Jvm.ClassFile.FieldType.int)) ∈ m_tall := m_in 290 (by decide +kernel) rfl
theorem mw_291 : (Jvm.Cond.methodLink "RelayPassages" (83 : Nat) ({ cls := "RelayPassages", name := "checkBooking", desc := "(III)V" } : Jvm.MethodName)) ∈ m_tall := m_in 291 (by decide +kernel) rfl
theorem mw_293 : (Jvm.Cond.instanceMethod ({ cls := "RelayPassages", name := "checkBooking", desc := "(III)V" } : Jvm.MethodName)) ∈ m_tall := m_in 293 (by decide +kernel) rfl
theorem mw_294 : (Jvm.Cond.code ({ cls := "RelayPassages", name := "checkBooking", desc := "(III)V" } : Jvm.MethodName) prog_1_method_22_code (4 : Nat) (Option.none : Option Jvm.ClassFile.FieldType)) ∈ m_tall := m_in 294 (by decide +kernel) rfl
theorem mw_295 : (Jvm.Cond.stringRef "RelayPassages" (161 : Nat) "no tick to book for") ∈ m_tall := m_in 295 (by decide +kernel) rfl
theorem mw_296 : (Jvm.Cond.stringRef "RelayPassages" (163 : Nat) "32 handles are given") ∈ m_tall := m_in 296 (by decide +kernel) rfl
theorem mw_297 : (Jvm.Cond.methodLink "RelayPassages" (87 : Nat) ({ cls := "RelayPassages$WayFinder", name := "seek", desc := "(LRelayPassages$Network;III)I" } : Jvm.MethodName)) ∈ m_tall := m_in 297 (by decide +kernel) rfl
theorem mw_298 : (Jvm.Cond.instanceMethod ({ cls := "RelayPassages$WayFinder", name := "seek", desc := "(LRelayPassages$Network;III)I" } : Jvm.MethodName)) ∈ m_tall := m_in 298 (by decide +kernel) rfl
theorem mw_299 : (Jvm.Cond.selects "RelayPassages$WayFinder" ({ cls := "RelayPassages$WayFinder", name := "seek", desc := "(LRelayPassages$Network;III)I" } : Jvm.MethodName) ({ cls := "RelayPassages$WayFinder", name := "seek", desc := "(LRelayPassages$Network;III)I" } : Jvm.MethodName)) ∈ m_tall := m_in 299 (by decide +kernel) rfl
theorem mw_300 : (Jvm.Cond.code ({ cls := "RelayPassages$WayFinder", name := "seek", desc := "(LRelayPassages$Network;III)I" } : Jvm.MethodName) prog_4_method_2_code (6 : Nat) (Option.some Jvm.ClassFile.FieldType.int)) ∈ m_tall := m_in 300 (by decide +kernel) rfl
theorem mw_301 : (Jvm.Cond.methodLink "RelayPassages$WayFinder" (18 : Nat) ({ cls := "RelayPassages$WayFinder", name := "soonestEnd", desc := "(LRelayPassages$Network;III)I" } : Jvm.MethodName)) ∈ m_tall := m_in 301 (by decide +kernel) rfl
theorem mw_302 : (Jvm.Cond.static ({ cls := "RelayPassages$WayFinder", name := "soonestEnd", desc := "(LRelayPassages$Network;III)I" } : Jvm.MethodName)) ∈ m_tall := m_in 302 (by decide +kernel) rfl
theorem mw_303 : (Jvm.Cond.code ({ cls := "RelayPassages$WayFinder", name := "soonestEnd", desc := "(LRelayPassages$Network;III)I" } : Jvm.MethodName) prog_4_method_3_code (6 : Nat) (Option.some Jvm.ClassFile.FieldType.int)) ∈ m_tall := m_in 303 (by decide +kernel) rfl
theorem mw_304 : (Jvm.Cond.methodLink "RelayPassages$WayFinder" (29 : Nat) ({ cls := "RelayPassages$WayFinder", name := "onwardOfAll", desc := "(LRelayPassages$Network;II)I" } : Jvm.MethodName)) ∈ m_tall := m_in 304 (by decide +kernel) rfl
theorem mw_305 : (Jvm.Cond.static ({ cls := "RelayPassages$WayFinder", name := "onwardOfAll", desc := "(LRelayPassages$Network;II)I" } : Jvm.MethodName)) ∈ m_tall := m_in 305 (by decide +kernel) rfl
theorem mw_306 : (Jvm.Cond.code ({ cls := "RelayPassages$WayFinder", name := "onwardOfAll", desc := "(LRelayPassages$Network;II)I" } : Jvm.MethodName) prog_4_method_4_code (5 : Nat) (Option.some Jvm.ClassFile.FieldType.int)) ∈ m_tall := m_in 306 (by decide +kernel) rfl
theorem mw_307 : (Jvm.Cond.methodLinkNest "RelayPassages$WayFinder" (33 : Nat) ({ cls := "RelayPassages", name := "isInSet", desc := "(II)Z" } : Jvm.MethodName) "RelayPassages") ∈ m_tall := m_in 307 (by decide +kernel) rfl
theorem mw_308 : (Jvm.Cond.methodLink "RelayPassages$WayFinder" (37 : Nat) ({ cls := "RelayPassages$Network", name := "onward", desc := "(II)I" } : Jvm.MethodName)) ∈ m_tall := m_in 308 (by decide +kernel) rfl
theorem mw_309 : (Jvm.Cond.instanceMethod ({ cls := "RelayPassages$Network", name := "onward", desc := "(II)I" } : Jvm.MethodName)) ∈ m_tall := m_in 309 (by decide +kernel) rfl
theorem mw_310 : (Jvm.Cond.selects "RelayPassages$Network" ({ cls := "RelayPassages$Network", name := "onward", desc := "(II)I" } : Jvm.MethodName) ({ cls := "RelayPassages$Network", name := "onward", desc := "(II)I" } : Jvm.MethodName)) ∈ m_tall := m_in 310 (by decide +kernel) rfl
theorem mw_311 : (Jvm.Cond.code ({ cls := "RelayPassages$Network", name := "onward", desc := "(II)I" } : Jvm.MethodName) prog_2_method_12_code (5 : Nat) (Option.some Jvm.ClassFile.FieldType.int)) ∈ m_tall := m_in 311 (by decide +kernel) rfl
theorem mw_312 : (Jvm.Cond.methodLink "RelayPassages$WayFinder" (22 : Nat) ({ cls := "RelayPassages$WayFinder", name := "markLeading", desc := "(LRelayPassages$Network;III)V" } : Jvm.MethodName)) ∈ m_tall := m_in 312 (by decide +kernel) rfl
theorem mw_314 : (Jvm.Cond.instanceMethod ({ cls := "RelayPassages$WayFinder", name := "markLeading", desc := "(LRelayPassages$Network;III)V" } : Jvm.MethodName)) ∈ m_tall := m_in 314 (by decide +kernel) rfl
theorem mw_315 : (Jvm.Cond.code ({ cls := "RelayPassages$WayFinder", name := "markLeading", desc := "(LRelayPassages$Network;III)V" } : Jvm.MethodName) prog_4_method_5_code (8 : Nat) (Option.none : Option Jvm.ClassFile.FieldType)) ∈ m_tall := m_in 315 (by decide +kernel) rfl
theorem mw_316 : (Jvm.Cond.methodLink "RelayPassages$WayFinder" (26 : Nat) ({ cls := "RelayPassages$WayFinder", name := "walk", desc := "(LRelayPassages$Network;III)V" } : Jvm.MethodName)) ∈ m_tall := m_in 316 (by decide +kernel) rfl
theorem mw_318 : (Jvm.Cond.instanceMethod ({ cls := "RelayPassages$WayFinder", name := "walk", desc := "(LRelayPassages$Network;III)V" } : Jvm.MethodName)) ∈ m_tall := m_in 318 (by decide +kernel) rfl
theorem mw_319 : (Jvm.Cond.code ({ cls := "RelayPassages$WayFinder", name := "walk", desc := "(LRelayPassages$Network;III)V" } : Jvm.MethodName) prog_4_method_6_code (6 : Nat) (Option.none : Option Jvm.ClassFile.FieldType)) ∈ m_tall := m_in 319 (by decide +kernel) rfl
theorem mw_320 : (Jvm.Cond.methodLink "RelayPassages$WayFinder" (43 : Nat) ({ cls := "RelayPassages$WayFinder", name := "leastOf", desc := "(I)I" } : Jvm.MethodName)) ∈ m_tall := m_in 320 (by decide +kernel) rfl
theorem mw_321 : (Jvm.Cond.static ({ cls := "RelayPassages$WayFinder", name := "leastOf", desc := "(I)I" } : Jvm.MethodName)) ∈ m_tall := m_in 321 (by decide +kernel) rfl
theorem mw_322 : (Jvm.Cond.code ({ cls := "RelayPassages$WayFinder", name := "leastOf", desc := "(I)I" } : Jvm.MethodName) prog_4_method_7_code (2 : Nat) (Option.some Jvm.ClassFile.FieldType.int)) ∈ m_tall := m_in 322 (by decide +kernel) rfl
theorem mw_323 : (Jvm.Cond.instantiable "RelayPassages$Parcel" (5 : Nat)) ∈ m_tall := m_in 323 (by decide +kernel) rfl
theorem mw_324 : (Jvm.Cond.methodLink "RelayPassages" (91 : Nat) ({ cls := "RelayPassages$Parcel", name := "<init>", desc := "(II)V" } : Jvm.MethodName)) ∈ m_tall := m_in 324 (by decide +kernel) rfl
theorem mw_325 : (Jvm.Cond.instanceMethod ({ cls := "RelayPassages$Parcel", name := "<init>", desc := "(II)V" } : Jvm.MethodName)) ∈ m_tall := m_in 325 (by decide +kernel) rfl
theorem mw_326 : (Jvm.Cond.code ({ cls := "RelayPassages$Parcel", name := "<init>", desc := "(II)V" } : Jvm.MethodName) prog_3_method_1_code (3 : Nat) (Option.none : Option Jvm.ClassFile.FieldType)) ∈ m_tall := m_in 326 (by decide +kernel) rfl
theorem mw_327 : (Jvm.Cond.methodLink "RelayPassages$Parcel" (3 : Nat) ({ cls := "java/lang/Object", name := "<init>", desc := "()V" } : Jvm.MethodName)) ∈ m_tall := m_in 327 (by decide +kernel) rfl
theorem mw_328 : (Jvm.Cond.fieldLink "RelayPassages$Parcel" (22 : Nat) "RelayPassages$Parcel" "goal" "I") ∈ m_tall := m_in 328 (by decide +kernel) rfl
theorem mw_329 : (Jvm.Cond.fieldLink "RelayPassages" (189 : Nat) "RelayPassages$Parcel" "goal" "I") ∈ m_tall := m_in 329 (by decide +kernel) rfl
theorem mw_330 : (Jvm.Cond.fieldLink "RelayPassages$Parcel" (25 : Nat) "RelayPassages$Parcel" "at" "I") ∈ m_tall := m_in 330 (by decide +kernel) rfl
theorem mw_331 : (Jvm.Cond.fieldLink "RelayPassages" (174 : Nat) "RelayPassages$Parcel" "at" "I") ∈ m_tall := m_in 331 (by decide +kernel) rfl
theorem mw_332 : (Jvm.Cond.fieldLink "RelayPassages$Parcel" (9 : Nat) "RelayPassages$Parcel" "nodes" "[I") ∈ m_tall := m_in 332 (by decide +kernel) rfl
theorem mw_333 : (Jvm.Cond.fieldLink "RelayPassages" (165 : Nat) "RelayPassages$Parcel" "nodes" "[I") ∈ m_tall := m_in 333 (by decide +kernel) rfl
theorem mw_334 : (Jvm.Cond.fieldLink "RelayPassages$Parcel" (15 : Nat) "RelayPassages$Parcel" "last" "I") ∈ m_tall := m_in 334 (by decide +kernel) rfl
theorem mw_335 : (Jvm.Cond.fieldLink "RelayPassages" (135 : Nat) "RelayPassages$Parcel" "last" "I") ∈ m_tall := m_in 335 (by decide +kernel) rfl
theorem mw_336 : (Jvm.Cond.fieldLink "RelayPassages$Parcel" (19 : Nat) "RelayPassages$Parcel" "fate" "I") ∈ m_tall := m_in 336 (by decide +kernel) rfl
theorem mw_337 : (Jvm.Cond.fieldLink "RelayPassages" (111 : Nat) "RelayPassages$Parcel" "fate" "I") ∈ m_tall := m_in 337 (by decide +kernel) rfl
theorem mw_338 : (Jvm.Cond.laysFinal "RelayPassages$Parcel" "RelayPassages$Parcel" "goal" "I") ∈ m_tall := m_in 338 (by decide +kernel) rfl
theorem mw_340 : (Jvm.Cond.laysFinal "RelayPassages$Parcel" "RelayPassages$Parcel" "at" "I") ∈ m_tall := m_in 340 (by decide +kernel) rfl
theorem mw_342 : (Jvm.Cond.laysFinal "RelayPassages$Parcel" "RelayPassages$Parcel" "nodes" "[I") ∈ m_tall := m_in 342 (by decide +kernel) rfl
theorem mw_344 : (Jvm.Cond.lays "RelayPassages$Parcel" "RelayPassages$Parcel" "last" "I") ∈ m_tall := m_in 344 (by decide +kernel) rfl
theorem mw_346 : (Jvm.Cond.lays "RelayPassages$Parcel" "RelayPassages$Parcel" "fate" "I") ∈ m_tall := m_in 346 (by decide +kernel) rfl
theorem mw_349 : (Jvm.Cond.methodLink "RelayPassages" (93 : Nat) ({ cls := "RelayPassages", name := "giveJourney", desc := "(LRelayPassages$Parcel;II)V" } : Jvm.MethodName)) ∈ m_tall := m_in 349 (by decide +kernel) rfl
theorem mw_351 : (Jvm.Cond.instanceMethod ({ cls := "RelayPassages", name := "giveJourney", desc := "(LRelayPassages$Parcel;II)V" } : Jvm.MethodName)) ∈ m_tall := m_in 351 (by decide +kernel) rfl
theorem mw_352 : (Jvm.Cond.code ({ cls := "RelayPassages", name := "giveJourney", desc := "(LRelayPassages$Parcel;II)V" } : Jvm.MethodName) prog_1_method_23_code (5 : Nat) (Option.none : Option Jvm.ClassFile.FieldType)) ∈ m_tall := m_in 352 (by decide +kernel) rfl
theorem mw_353 : (Jvm.Cond.methodLink "RelayPassages" (171 : Nat) ({ cls := "RelayPassages$Network", name := "take", desc := "(III)V" } : Jvm.MethodName)) ∈ m_tall := m_in 353 (by decide +kernel) rfl
theorem mw_354 : (Jvm.Cond.instanceMethod ({ cls := "RelayPassages$Network", name := "take", desc := "(III)V" } : Jvm.MethodName)) ∈ m_tall := m_in 354 (by decide +kernel) rfl
theorem mw_355 : (Jvm.Cond.selects "RelayPassages$Network" ({ cls := "RelayPassages$Network", name := "take", desc := "(III)V" } : Jvm.MethodName) ({ cls := "RelayPassages$Network", name := "take", desc := "(III)V" } : Jvm.MethodName)) ∈ m_tall := m_in 355 (by decide +kernel) rfl
theorem mw_356 : (Jvm.Cond.code ({ cls := "RelayPassages$Network", name := "take", desc := "(III)V" } : Jvm.MethodName) prog_2_method_13_code (4 : Nat) (Option.none : Option Jvm.ClassFile.FieldType)) ∈ m_tall := m_in 356 (by decide +kernel) rfl
theorem mw_357 : (Jvm.Cond.methodLink "RelayPassagesLaw" (66 : Nat) ({ cls := "RelayPassagesLaw", name := "whatIf", desc := "(LRelayPassages;III[J)I" } : Jvm.MethodName)) ∈ m_tall := m_in 357 (by decide +kernel) rfl
theorem mw_358 : (Jvm.Cond.static ({ cls := "RelayPassagesLaw", name := "whatIf", desc := "(LRelayPassages;III[J)I" } : Jvm.MethodName)) ∈ m_tall := m_in 358 (by decide +kernel) rfl
theorem mw_359 : (Jvm.Cond.codeWith ({ cls := "RelayPassagesLaw", name := "whatIf", desc := "(LRelayPassages;III[J)I" } : Jvm.MethodName) method_6_code (6 : Nat) (Option.some Jvm.ClassFile.FieldType.int) [((0 : Nat), (12 : Nat), (15 : Nat), (13 : Nat)), ((0 : Nat), (12 : Nat), (19 : Nat), (15 : Nat))]) ∈ m_tall := m_in 359 (by decide +kernel) rfl
theorem mw_360 : (Jvm.Cond.methodLink "RelayPassagesLaw" (25 : Nat) ({ cls := "RelayPassages", name := "whatIf", desc := "(III)I" } : Jvm.MethodName)) ∈ m_tall := m_in 360 (by decide +kernel) rfl
theorem mw_361 : (Jvm.Cond.instanceMethod ({ cls := "RelayPassages", name := "whatIf", desc := "(III)I" } : Jvm.MethodName)) ∈ m_tall := m_in 361 (by decide +kernel) rfl
theorem mw_362 : (Jvm.Cond.selects "RelayPassages" ({ cls := "RelayPassages", name := "whatIf", desc := "(III)I" } : Jvm.MethodName) ({ cls := "RelayPassages", name := "whatIf", desc := "(III)I" } : Jvm.MethodName)) ∈ m_tall := m_in 362 (by decide +kernel) rfl
theorem mw_363 : (Jvm.Cond.code ({ cls := "RelayPassages", name := "whatIf", desc := "(III)I" } : Jvm.MethodName) prog_1_method_6_code (4 : Nat) (Option.some Jvm.ClassFile.FieldType.int)) ∈ m_tall := m_in 363 (by decide +kernel) rfl
theorem mw_364 : (Jvm.Cond.methodLink "RelayPassagesLaw" (69 : Nat) ({ cls := "RelayPassagesLaw", name := "cancel", desc := "(LRelayPassages;I[J)I" } : Jvm.MethodName)) ∈ m_tall := m_in 364 (by decide +kernel) rfl
theorem mw_365 : (Jvm.Cond.static ({ cls := "RelayPassagesLaw", name := "cancel", desc := "(LRelayPassages;I[J)I" } : Jvm.MethodName)) ∈ m_tall := m_in 365 (by decide +kernel) rfl
theorem mw_366 : (Jvm.Cond.codeWith ({ cls := "RelayPassagesLaw", name := "cancel", desc := "(LRelayPassages;I[J)I" } : Jvm.MethodName) method_7_code (4 : Nat) (Option.some Jvm.ClassFile.FieldType.int) [((0 : Nat), (9 : Nat), (12 : Nat), (32 : Nat)), ((0 : Nat), (9 : Nat), (15 : Nat), (15 : Nat))]) ∈ m_tall := m_in 366 (by decide +kernel) rfl
theorem mw_367 : (Jvm.Cond.classLink "RelayPassagesLaw" (32 : Nat) "java/util/NoSuchElementException") ∈ m_tall := m_in 367 (by decide +kernel) rfl
theorem mw_368 : (Jvm.Cond.methodLink "RelayPassagesLaw" (28 : Nat) ({ cls := "RelayPassages", name := "cancel", desc := "(I)I" } : Jvm.MethodName)) ∈ m_tall := m_in 368 (by decide +kernel) rfl
theorem mw_369 : (Jvm.Cond.instanceMethod ({ cls := "RelayPassages", name := "cancel", desc := "(I)I" } : Jvm.MethodName)) ∈ m_tall := m_in 369 (by decide +kernel) rfl
theorem mw_370 : (Jvm.Cond.selects "RelayPassages" ({ cls := "RelayPassages", name := "cancel", desc := "(I)I" } : Jvm.MethodName) ({ cls := "RelayPassages", name := "cancel", desc := "(I)I" } : Jvm.MethodName)) ∈ m_tall := m_in 370 (by decide +kernel) rfl
theorem mw_371 : (Jvm.Cond.code ({ cls := "RelayPassages", name := "cancel", desc := "(I)I" } : Jvm.MethodName) prog_1_method_7_code (3 : Nat) (Option.some Jvm.ClassFile.FieldType.int)) ∈ m_tall := m_in 371 (by decide +kernel) rfl
theorem mw_372 : (Jvm.Cond.classLink "RelayPassages" (101 : Nat) "java/util/NoSuchElementException") ∈ m_tall := m_in 372 (by decide +kernel) rfl
theorem mw_374 : (Jvm.Cond.castable "java/util/NoSuchElementException" "java/util/NoSuchElementException") ∈ m_tall := m_in 374 (by decide +kernel) rfl
theorem mw_381 : (Jvm.Cond.stringRef "RelayPassages" (103 : Nat) "there is no such parcel") ∈ m_tall := m_in 381 (by decide +kernel) rfl
theorem mw_388 : (Jvm.Cond.methodLink "RelayPassages" (106 : Nat) ({ cls := "RelayPassages$Parcel", name := "isUnderWay", desc := "(I)Z" } : Jvm.MethodName)) ∈ m_tall := m_in 388 (by decide +kernel) rfl
theorem mw_389 : (Jvm.Cond.instanceMethod ({ cls := "RelayPassages$Parcel", name := "isUnderWay", desc := "(I)Z" } : Jvm.MethodName)) ∈ m_tall := m_in 389 (by decide +kernel) rfl
theorem mw_390 : (Jvm.Cond.selects "RelayPassages$Parcel" ({ cls := "RelayPassages$Parcel", name := "isUnderWay", desc := "(I)Z" } : Jvm.MethodName) ({ cls := "RelayPassages$Parcel", name := "isUnderWay", desc := "(I)Z" } : Jvm.MethodName)) ∈ m_tall := m_in 390 (by decide +kernel) rfl
theorem mw_391 : (Jvm.Cond.code ({ cls := "RelayPassages$Parcel", name := "isUnderWay", desc := "(I)Z" } : Jvm.MethodName) prog_3_method_3_code (3 : Nat) (Option.some Jvm.ClassFile.FieldType.boolean)) ∈ m_tall := m_in 391 (by decide +kernel) rfl
theorem mw_392 : (Jvm.Cond.methodLink "RelayPassages$Parcel" (28 : Nat) ({ cls := "RelayPassages$Parcel", name := "stateAt", desc := "(I)I" } : Jvm.MethodName)) ∈ m_tall := m_in 392 (by decide +kernel) rfl
theorem mw_393 : (Jvm.Cond.stringRef "RelayPassages" (109 : Nat) "the parcel is neither booked nor travelling") ∈ m_tall := m_in 393 (by decide +kernel) rfl
theorem mw_394 : (Jvm.Cond.methodLink "RelayPassages" (114 : Nat) ({ cls := "RelayPassages", name := "cutOff", desc := "(LRelayPassages$Parcel;)I" } : Jvm.MethodName)) ∈ m_tall := m_in 394 (by decide +kernel) rfl
theorem mw_396 : (Jvm.Cond.instanceMethod ({ cls := "RelayPassages", name := "cutOff", desc := "(LRelayPassages$Parcel;)I" } : Jvm.MethodName)) ∈ m_tall := m_in 396 (by decide +kernel) rfl
theorem mw_397 : (Jvm.Cond.code ({ cls := "RelayPassages", name := "cutOff", desc := "(LRelayPassages$Parcel;)I" } : Jvm.MethodName) prog_1_method_24_code (5 : Nat) (Option.some Jvm.ClassFile.FieldType.int)) ∈ m_tall := m_in 397 (by decide +kernel) rfl
theorem mw_398 : (Jvm.Cond.methodLink "RelayPassages" (177 : Nat) ({ cls := "java/lang/Math", name := "max", desc := "(II)I" } : Jvm.MethodName)) ∈ m_tall := m_in 398 (by decide +kernel) rfl
theorem mw_399 : (Jvm.Cond.static ({ cls := "java/lang/Math", name := "max", desc := "(II)I" } : Jvm.MethodName)) ∈ m_tall := m_in 399 (by decide +kernel) rfl
theorem mw_400 : (Jvm.Cond.code ({ cls := "java/lang/Math", name := "max", desc := "(II)I" } : Jvm.MethodName) prog_10_method_65_code (2 : Nat) (Option.some Jvm.ClassFile.FieldType.int)) ∈ m_tall := m_in 400 (by decide +kernel) rfl
theorem mw_401 : (Jvm.Cond.methodLink "RelayPassages" (182 : Nat) ({ cls := "RelayPassages$Network", name := "giveBack", desc := "(III)V" } : Jvm.MethodName)) ∈ m_tall := m_in 401 (by decide +kernel) rfl
theorem mw_402 : (Jvm.Cond.instanceMethod ({ cls := "RelayPassages$Network", name := "giveBack", desc := "(III)V" } : Jvm.MethodName)) ∈ m_tall := m_in 402 (by decide +kernel) rfl
theorem mw_403 : (Jvm.Cond.selects "RelayPassages$Network" ({ cls := "RelayPassages$Network", name := "giveBack", desc := "(III)V" } : Jvm.MethodName) ({ cls := "RelayPassages$Network", name := "giveBack", desc := "(III)V" } : Jvm.MethodName)) ∈ m_tall := m_in 403 (by decide +kernel) rfl
theorem mw_404 : (Jvm.Cond.code ({ cls := "RelayPassages$Network", name := "giveBack", desc := "(III)V" } : Jvm.MethodName) prog_2_method_14_code (4 : Nat) (Option.none : Option Jvm.ClassFile.FieldType)) ∈ m_tall := m_in 404 (by decide +kernel) rfl
theorem mw_405 : (Jvm.Cond.methodLink "RelayPassagesLaw" (73 : Nat) ({ cls := "RelayPassagesLaw", name := "cut", desc := "(LRelayPassages;II[J)I" } : Jvm.MethodName)) ∈ m_tall := m_in 405 (by decide +kernel) rfl
theorem mw_406 : (Jvm.Cond.static ({ cls := "RelayPassagesLaw", name := "cut", desc := "(LRelayPassages;II[J)I" } : Jvm.MethodName)) ∈ m_tall := m_in 406 (by decide +kernel) rfl
theorem mw_407 : (Jvm.Cond.codeWith ({ cls := "RelayPassagesLaw", name := "cut", desc := "(LRelayPassages;II[J)I" } : Jvm.MethodName) method_8_code (5 : Nat) (Option.some Jvm.ClassFile.FieldType.int) [((0 : Nat), (10 : Nat), (13 : Nat), (13 : Nat))]) ∈ m_tall := m_in 407 (by decide +kernel) rfl
theorem mw_408 : (Jvm.Cond.methodLink "RelayPassagesLaw" (34 : Nat) ({ cls := "RelayPassages", name := "cut", desc := "(II)I" } : Jvm.MethodName)) ∈ m_tall := m_in 408 (by decide +kernel) rfl
theorem mw_409 : (Jvm.Cond.instanceMethod ({ cls := "RelayPassages", name := "cut", desc := "(II)I" } : Jvm.MethodName)) ∈ m_tall := m_in 409 (by decide +kernel) rfl
theorem mw_410 : (Jvm.Cond.selects "RelayPassages" ({ cls := "RelayPassages", name := "cut", desc := "(II)I" } : Jvm.MethodName) ({ cls := "RelayPassages", name := "cut", desc := "(II)I" } : Jvm.MethodName)) ∈ m_tall := m_in 410 (by decide +kernel) rfl
theorem mw_411 : (Jvm.Cond.code ({ cls := "RelayPassages", name := "cut", desc := "(II)I" } : Jvm.MethodName) prog_1_method_8_code (8 : Nat) (Option.some Jvm.ClassFile.FieldType.int)) ∈ m_tall := m_in 411 (by decide +kernel) rfl
theorem mw_412 : (Jvm.Cond.methodLink "RelayPassages" (118 : Nat) ({ cls := "RelayPassages$Network", name := "closeFrom", desc := "(III)V" } : Jvm.MethodName)) ∈ m_tall := m_in 412 (by decide +kernel) rfl
theorem mw_413 : (Jvm.Cond.instanceMethod ({ cls := "RelayPassages$Network", name := "closeFrom", desc := "(III)V" } : Jvm.MethodName)) ∈ m_tall := m_in 413 (by decide +kernel) rfl
theorem mw_414 : (Jvm.Cond.selects "RelayPassages$Network" ({ cls := "RelayPassages$Network", name := "closeFrom", desc := "(III)V" } : Jvm.MethodName) ({ cls := "RelayPassages$Network", name := "closeFrom", desc := "(III)V" } : Jvm.MethodName)) ∈ m_tall := m_in 414 (by decide +kernel) rfl
theorem mw_415 : (Jvm.Cond.code ({ cls := "RelayPassages$Network", name := "closeFrom", desc := "(III)V" } : Jvm.MethodName) prog_2_method_8_code (5 : Nat) (Option.none : Option Jvm.ClassFile.FieldType)) ∈ m_tall := m_in 415 (by decide +kernel) rfl
theorem mw_416 : (Jvm.Cond.methodLink "RelayPassages" (121 : Nat) ({ cls := "RelayPassages", name := "cutOffTouched", desc := "(II)J" } : Jvm.MethodName)) ∈ m_tall := m_in 416 (by decide +kernel) rfl
theorem mw_418 : (Jvm.Cond.instanceMethod ({ cls := "RelayPassages", name := "cutOffTouched", desc := "(II)J" } : Jvm.MethodName)) ∈ m_tall := m_in 418 (by decide +kernel) rfl
theorem mw_419 : (Jvm.Cond.code ({ cls := "RelayPassages", name := "cutOffTouched", desc := "(II)J" } : Jvm.MethodName) prog_1_method_25_code (7 : Nat) (Option.some Jvm.ClassFile.FieldType.long)) ∈ m_tall := m_in 419 (by decide +kernel) rfl
theorem mw_420 : (Jvm.Cond.methodLink "RelayPassages" (185 : Nat) ({ cls := "RelayPassages$Parcel", name := "usesPairFrom", desc := "(III)Z" } : Jvm.MethodName)) ∈ m_tall := m_in 420 (by decide +kernel) rfl
theorem mw_421 : (Jvm.Cond.instanceMethod ({ cls := "RelayPassages$Parcel", name := "usesPairFrom", desc := "(III)Z" } : Jvm.MethodName)) ∈ m_tall := m_in 421 (by decide +kernel) rfl
theorem mw_422 : (Jvm.Cond.selects "RelayPassages$Parcel" ({ cls := "RelayPassages$Parcel", name := "usesPairFrom", desc := "(III)Z" } : Jvm.MethodName) ({ cls := "RelayPassages$Parcel", name := "usesPairFrom", desc := "(III)Z" } : Jvm.MethodName)) ∈ m_tall := m_in 422 (by decide +kernel) rfl
theorem mw_423 : (Jvm.Cond.code ({ cls := "RelayPassages$Parcel", name := "usesPairFrom", desc := "(III)Z" } : Jvm.MethodName) prog_3_method_5_code (7 : Nat) (Option.some Jvm.ClassFile.FieldType.boolean)) ∈ m_tall := m_in 423 (by decide +kernel) rfl
theorem mw_424 : (Jvm.Cond.methodLink "RelayPassages$Parcel" (32 : Nat) ({ cls := "java/lang/Math", name := "max", desc := "(II)I" } : Jvm.MethodName)) ∈ m_tall := m_in 424 (by decide +kernel) rfl
theorem mw_425 : (Jvm.Cond.methodLink "RelayPassages" (125 : Nat) ({ cls := "RelayPassages", name := "bookAnew", desc := "(LRelayPassages$Parcel;)Z" } : Jvm.MethodName)) ∈ m_tall := m_in 425 (by decide +kernel) rfl
theorem mw_427 : (Jvm.Cond.instanceMethod ({ cls := "RelayPassages", name := "bookAnew", desc := "(LRelayPassages$Parcel;)Z" } : Jvm.MethodName)) ∈ m_tall := m_in 427 (by decide +kernel) rfl
theorem mw_428 : (Jvm.Cond.code ({ cls := "RelayPassages", name := "bookAnew", desc := "(LRelayPassages$Parcel;)Z" } : Jvm.MethodName) prog_1_method_26_code (4 : Nat) (Option.some Jvm.ClassFile.FieldType.boolean)) ∈ m_tall := m_in 428 (by decide +kernel) rfl
theorem mw_429 : (Jvm.Cond.methodLink "RelayPassagesLaw" (76 : Nat) ({ cls := "RelayPassagesLaw", name := "tick", desc := "(LRelayPassages;[J)I" } : Jvm.MethodName)) ∈ m_tall := m_in 429 (by decide +kernel) rfl
theorem mw_430 : (Jvm.Cond.static ({ cls := "RelayPassagesLaw", name := "tick", desc := "(LRelayPassages;[J)I" } : Jvm.MethodName)) ∈ m_tall := m_in 430 (by decide +kernel) rfl
theorem mw_431 : (Jvm.Cond.codeWith ({ cls := "RelayPassagesLaw", name := "tick", desc := "(LRelayPassages;[J)I" } : Jvm.MethodName) method_9_code (3 : Nat) (Option.some Jvm.ClassFile.FieldType.int) [((0 : Nat), (8 : Nat), (11 : Nat), (15 : Nat))]) ∈ m_tall := m_in 431 (by decide +kernel) rfl
theorem mw_432 : (Jvm.Cond.methodLink "RelayPassagesLaw" (37 : Nat) ({ cls := "RelayPassages", name := "tick", desc := "()I" } : Jvm.MethodName)) ∈ m_tall := m_in 432 (by decide +kernel) rfl
theorem mw_433 : (Jvm.Cond.instanceMethod ({ cls := "RelayPassages", name := "tick", desc := "()I" } : Jvm.MethodName)) ∈ m_tall := m_in 433 (by decide +kernel) rfl
theorem mw_434 : (Jvm.Cond.selects "RelayPassages" ({ cls := "RelayPassages", name := "tick", desc := "()I" } : Jvm.MethodName) ({ cls := "RelayPassages", name := "tick", desc := "()I" } : Jvm.MethodName)) ∈ m_tall := m_in 434 (by decide +kernel) rfl
theorem mw_435 : (Jvm.Cond.code ({ cls := "RelayPassages", name := "tick", desc := "()I" } : Jvm.MethodName) prog_1_method_9_code (4 : Nat) (Option.some Jvm.ClassFile.FieldType.int)) ∈ m_tall := m_in 435 (by decide +kernel) rfl
theorem mw_436 : (Jvm.Cond.stringRef "RelayPassages" (129 : Nat) "NOW is 64") ∈ m_tall := m_in 436 (by decide +kernel) rfl
theorem mw_437 : (Jvm.Cond.classLink "RelayPassagesLaw" (42 : Nat) "RelayPassagesModel") ∈ m_tall := m_in 437 (by decide +kernel) rfl
theorem mw_438 : (Jvm.Cond.instantiable "RelayPassagesModel" (15 : Nat)) ∈ m_tall := m_in 438 (by decide +kernel) rfl
theorem mw_439 : (Jvm.Cond.methodLink "RelayPassagesLaw" (44 : Nat) ({ cls := "RelayPassagesModel", name := "<init>", desc := "()V" } : Jvm.MethodName)) ∈ m_tall := m_in 439 (by decide +kernel) rfl
theorem mw_440 : (Jvm.Cond.instanceMethod ({ cls := "RelayPassagesModel", name := "<init>", desc := "()V" } : Jvm.MethodName)) ∈ m_tall := m_in 440 (by decide +kernel) rfl
theorem mw_441 : (Jvm.Cond.code ({ cls := "RelayPassagesModel", name := "<init>", desc := "()V" } : Jvm.MethodName) prog_6_method_1_code (1 : Nat) (Option.none : Option Jvm.ClassFile.FieldType)) ∈ m_tall := m_in 441 (by decide +kernel) rfl
theorem mw_442 : (Jvm.Cond.methodLink "RelayPassagesModel" (1 : Nat) ({ cls := "java/lang/Object", name := "<init>", desc := "()V" } : Jvm.MethodName)) ∈ m_tall := m_in 442 (by decide +kernel) rfl
theorem mw_443 : (Jvm.Cond.fieldLink "RelayPassagesModel" (44 : Nat) "RelayPassagesModel" "thrown" "I") ∈ m_tall := m_in 443 (by decide +kernel) rfl
theorem mw_444 : (Jvm.Cond.fieldLink "RelayPassagesModel" (81 : Nat) "RelayPassagesModel" "time" "I") ∈ m_tall := m_in 444 (by decide +kernel) rfl
theorem mw_445 : (Jvm.Cond.fieldLink "RelayPassagesModel" (74 : Nat) "RelayPassagesModel" "contacts" "I") ∈ m_tall := m_in 445 (by decide +kernel) rfl
theorem mw_446 : (Jvm.Cond.fieldLink "RelayPassagesModel" (7 : Nat) "RelayPassagesModel" "places" "[I") ∈ m_tall := m_in 446 (by decide +kernel) rfl
theorem mw_447 : (Jvm.Cond.fieldLink "RelayPassagesModel" (13 : Nat) "RelayPassagesModel" "opens" "[Z") ∈ m_tall := m_in 447 (by decide +kernel) rfl
theorem mw_448 : (Jvm.Cond.fieldLink "RelayPassagesModel" (52 : Nat) "RelayPassagesModel" "parcels" "I") ∈ m_tall := m_in 448 (by decide +kernel) rfl
theorem mw_449 : (Jvm.Cond.fieldLink "RelayPassagesModel" (17 : Nat) "RelayPassagesModel" "goals" "[I") ∈ m_tall := m_in 449 (by decide +kernel) rfl
theorem mw_450 : (Jvm.Cond.fieldLink "RelayPassagesModel" (20 : Nat) "RelayPassagesModel" "sources" "[I") ∈ m_tall := m_in 450 (by decide +kernel) rfl
theorem mw_451 : (Jvm.Cond.fieldLink "RelayPassagesModel" (23 : Nat) "RelayPassagesModel" "starts" "[I") ∈ m_tall := m_in 451 (by decide +kernel) rfl
theorem mw_452 : (Jvm.Cond.fieldLink "RelayPassagesModel" (26 : Nat) "RelayPassagesModel" "ends" "[I") ∈ m_tall := m_in 452 (by decide +kernel) rfl
theorem mw_453 : (Jvm.Cond.fieldLink "RelayPassagesModel" (29 : Nat) "RelayPassagesModel" "firsts" "[I") ∈ m_tall := m_in 453 (by decide +kernel) rfl
theorem mw_454 : (Jvm.Cond.fieldLink "RelayPassagesModel" (32 : Nat) "RelayPassagesModel" "lasts" "[I") ∈ m_tall := m_in 454 (by decide +kernel) rfl
theorem mw_455 : (Jvm.Cond.fieldLink "RelayPassagesModel" (35 : Nat) "RelayPassagesModel" "nodes" "[I") ∈ m_tall := m_in 455 (by decide +kernel) rfl
theorem mw_456 : (Jvm.Cond.fieldLink "RelayPassagesModel" (38 : Nat) "RelayPassagesModel" "touched" "[Z") ∈ m_tall := m_in 456 (by decide +kernel) rfl
theorem mw_457 : (Jvm.Cond.fieldLink "RelayPassagesModel" (41 : Nat) "RelayPassagesModel" "early" "[I") ∈ m_tall := m_in 457 (by decide +kernel) rfl
theorem mw_458 : (Jvm.Cond.lays "RelayPassagesModel" "RelayPassagesModel" "thrown" "I") ∈ m_tall := m_in 458 (by decide +kernel) rfl
theorem mw_460 : (Jvm.Cond.lays "RelayPassagesModel" "RelayPassagesModel" "time" "I") ∈ m_tall := m_in 460 (by decide +kernel) rfl
theorem mw_462 : (Jvm.Cond.lays "RelayPassagesModel" "RelayPassagesModel" "contacts" "I") ∈ m_tall := m_in 462 (by decide +kernel) rfl
theorem mw_464 : (Jvm.Cond.laysFinal "RelayPassagesModel" "RelayPassagesModel" "places" "[I") ∈ m_tall := m_in 464 (by decide +kernel) rfl
theorem mw_466 : (Jvm.Cond.laysFinal "RelayPassagesModel" "RelayPassagesModel" "opens" "[Z") ∈ m_tall := m_in 466 (by decide +kernel) rfl
theorem mw_468 : (Jvm.Cond.lays "RelayPassagesModel" "RelayPassagesModel" "parcels" "I") ∈ m_tall := m_in 468 (by decide +kernel) rfl
theorem mw_470 : (Jvm.Cond.laysFinal "RelayPassagesModel" "RelayPassagesModel" "goals" "[I") ∈ m_tall := m_in 470 (by decide +kernel) rfl
theorem mw_472 : (Jvm.Cond.laysFinal "RelayPassagesModel" "RelayPassagesModel" "sources" "[I") ∈ m_tall := m_in 472 (by decide +kernel) rfl
theorem mw_474 : (Jvm.Cond.laysFinal "RelayPassagesModel" "RelayPassagesModel" "starts" "[I") ∈ m_tall := m_in 474 (by decide +kernel) rfl
theorem mw_476 : (Jvm.Cond.laysFinal "RelayPassagesModel" "RelayPassagesModel" "ends" "[I") ∈ m_tall := m_in 476 (by decide +kernel) rfl
theorem mw_478 : (Jvm.Cond.laysFinal "RelayPassagesModel" "RelayPassagesModel" "firsts" "[I") ∈ m_tall := m_in 478 (by decide +kernel) rfl
theorem mw_480 : (Jvm.Cond.laysFinal "RelayPassagesModel" "RelayPassagesModel" "lasts" "[I") ∈ m_tall := m_in 480 (by decide +kernel) rfl
theorem mw_482 : (Jvm.Cond.laysFinal "RelayPassagesModel" "RelayPassagesModel" "nodes" "[I") ∈ m_tall := m_in 482 (by decide +kernel) rfl
theorem mw_484 : (Jvm.Cond.laysFinal "RelayPassagesModel" "RelayPassagesModel" "touched" "[Z") ∈ m_tall := m_in 484 (by decide +kernel) rfl
theorem mw_486 : (Jvm.Cond.laysFinal "RelayPassagesModel" "RelayPassagesModel" "early" "[I") ∈ m_tall := m_in 486 (by decide +kernel) rfl
theorem mw_489 : (Jvm.Cond.arrayClass Jvm.ClassFile.FieldType.boolean) ∈ m_tall := m_in 489 (by decide +kernel) rfl
theorem mw_490 : (Jvm.Cond.methodLink "RelayPassagesLaw" (51 : Nat) ({ cls := "RelayPassagesModel", name := "thrown", desc := "()I" } : Jvm.MethodName)) ∈ m_tall := m_in 490 (by decide +kernel) rfl
theorem mw_491 : (Jvm.Cond.instanceMethod ({ cls := "RelayPassagesModel", name := "thrown", desc := "()I" } : Jvm.MethodName)) ∈ m_tall := m_in 491 (by decide +kernel) rfl
theorem mw_492 : (Jvm.Cond.selects "RelayPassagesModel" ({ cls := "RelayPassagesModel", name := "thrown", desc := "()I" } : Jvm.MethodName) ({ cls := "RelayPassagesModel", name := "thrown", desc := "()I" } : Jvm.MethodName)) ∈ m_tall := m_in 492 (by decide +kernel) rfl
theorem mw_493 : (Jvm.Cond.code ({ cls := "RelayPassagesModel", name := "thrown", desc := "()I" } : Jvm.MethodName) prog_6_method_2_code (1 : Nat) (Option.some Jvm.ClassFile.FieldType.int)) ∈ m_tall := m_in 493 (by decide +kernel) rfl
theorem mw_494 : (Jvm.Cond.methodLink "RelayPassagesLaw" (50 : Nat) ({ cls := "RelayPassagesModel", name := "node", desc := "(II)I" } : Jvm.MethodName)) ∈ m_tall := m_in 494 (by decide +kernel) rfl
theorem mw_495 : (Jvm.Cond.instanceMethod ({ cls := "RelayPassagesModel", name := "node", desc := "(II)I" } : Jvm.MethodName)) ∈ m_tall := m_in 495 (by decide +kernel) rfl
theorem mw_496 : (Jvm.Cond.selects "RelayPassagesModel" ({ cls := "RelayPassagesModel", name := "node", desc := "(II)I" } : Jvm.MethodName) ({ cls := "RelayPassagesModel", name := "node", desc := "(II)I" } : Jvm.MethodName)) ∈ m_tall := m_in 496 (by decide +kernel) rfl
theorem mw_497 : (Jvm.Cond.code ({ cls := "RelayPassagesModel", name := "node", desc := "(II)I" } : Jvm.MethodName) prog_6_method_14_code (5 : Nat) (Option.some Jvm.ClassFile.FieldType.int)) ∈ m_tall := m_in 497 (by decide +kernel) rfl
theorem mw_498 : (Jvm.Cond.methodLink "RelayPassagesLaw" (57 : Nat) ({ cls := "RelayPassagesModel", name := "contact", desc := "(IIII)I" } : Jvm.MethodName)) ∈ m_tall := m_in 498 (by decide +kernel) rfl
theorem mw_499 : (Jvm.Cond.instanceMethod ({ cls := "RelayPassagesModel", name := "contact", desc := "(IIII)I" } : Jvm.MethodName)) ∈ m_tall := m_in 499 (by decide +kernel) rfl
theorem mw_500 : (Jvm.Cond.selects "RelayPassagesModel" ({ cls := "RelayPassagesModel", name := "contact", desc := "(IIII)I" } : Jvm.MethodName) ({ cls := "RelayPassagesModel", name := "contact", desc := "(IIII)I" } : Jvm.MethodName)) ∈ m_tall := m_in 500 (by decide +kernel) rfl
theorem mw_501 : (Jvm.Cond.code ({ cls := "RelayPassagesModel", name := "contact", desc := "(IIII)I" } : Jvm.MethodName) prog_6_method_15_code (6 : Nat) (Option.some Jvm.ClassFile.FieldType.int)) ∈ m_tall := m_in 501 (by decide +kernel) rfl
theorem mw_502 : (Jvm.Cond.methodLink "RelayPassagesModel" (77 : Nat) ({ cls := "RelayPassagesModel", name := "noPair", desc := "(II)Z" } : Jvm.MethodName)) ∈ m_tall := m_in 502 (by decide +kernel) rfl
theorem mw_504 : (Jvm.Cond.instanceMethod ({ cls := "RelayPassagesModel", name := "noPair", desc := "(II)Z" } : Jvm.MethodName)) ∈ m_tall := m_in 504 (by decide +kernel) rfl
theorem mw_505 : (Jvm.Cond.code ({ cls := "RelayPassagesModel", name := "noPair", desc := "(II)Z" } : Jvm.MethodName) prog_6_method_4_code (3 : Nat) (Option.some Jvm.ClassFile.FieldType.boolean)) ∈ m_tall := m_in 505 (by decide +kernel) rfl
theorem mw_506 : (Jvm.Cond.methodLink "RelayPassagesModel" (48 : Nat) ({ cls := "RelayPassagesModel", name := "noNode", desc := "(I)Z" } : Jvm.MethodName)) ∈ m_tall := m_in 506 (by decide +kernel) rfl
theorem mw_508 : (Jvm.Cond.instanceMethod ({ cls := "RelayPassagesModel", name := "noNode", desc := "(I)Z" } : Jvm.MethodName)) ∈ m_tall := m_in 508 (by decide +kernel) rfl
theorem mw_509 : (Jvm.Cond.code ({ cls := "RelayPassagesModel", name := "noNode", desc := "(I)Z" } : Jvm.MethodName) prog_6_method_3_code (2 : Nat) (Option.some Jvm.ClassFile.FieldType.boolean)) ∈ m_tall := m_in 509 (by decide +kernel) rfl
theorem mw_510 : (Jvm.Cond.methodLink "RelayPassagesModel" (63 : Nat) ({ cls := "RelayPassagesModel", name := "isOpen", desc := "(III)Z" } : Jvm.MethodName)) ∈ m_tall := m_in 510 (by decide +kernel) rfl
theorem mw_512 : (Jvm.Cond.instanceMethod ({ cls := "RelayPassagesModel", name := "isOpen", desc := "(III)Z" } : Jvm.MethodName)) ∈ m_tall := m_in 512 (by decide +kernel) rfl
theorem mw_513 : (Jvm.Cond.code ({ cls := "RelayPassagesModel", name := "isOpen", desc := "(III)Z" } : Jvm.MethodName) prog_6_method_6_code (4 : Nat) (Option.some Jvm.ClassFile.FieldType.boolean)) ∈ m_tall := m_in 513 (by decide +kernel) rfl
theorem mw_514 : (Jvm.Cond.methodLink "RelayPassagesModel" (84 : Nat) ({ cls := "RelayPassagesModel", name := "set", desc := "(IIIZ)V" } : Jvm.MethodName)) ∈ m_tall := m_in 514 (by decide +kernel) rfl
theorem mw_516 : (Jvm.Cond.instanceMethod ({ cls := "RelayPassagesModel", name := "set", desc := "(IIIZ)V" } : Jvm.MethodName)) ∈ m_tall := m_in 516 (by decide +kernel) rfl
theorem mw_517 : (Jvm.Cond.code ({ cls := "RelayPassagesModel", name := "set", desc := "(IIIZ)V" } : Jvm.MethodName) prog_6_method_7_code (5 : Nat) (Option.none : Option Jvm.ClassFile.FieldType)) ∈ m_tall := m_in 517 (by decide +kernel) rfl
theorem mw_518 : (Jvm.Cond.methodLink "RelayPassagesLaw" (61 : Nat) ({ cls := "RelayPassagesModel", name := "now", desc := "()I" } : Jvm.MethodName)) ∈ m_tall := m_in 518 (by decide +kernel) rfl
theorem mw_519 : (Jvm.Cond.instanceMethod ({ cls := "RelayPassagesModel", name := "now", desc := "()I" } : Jvm.MethodName)) ∈ m_tall := m_in 519 (by decide +kernel) rfl
theorem mw_520 : (Jvm.Cond.selects "RelayPassagesModel" ({ cls := "RelayPassagesModel", name := "now", desc := "()I" } : Jvm.MethodName) ({ cls := "RelayPassagesModel", name := "now", desc := "()I" } : Jvm.MethodName)) ∈ m_tall := m_in 520 (by decide +kernel) rfl
theorem mw_521 : (Jvm.Cond.code ({ cls := "RelayPassagesModel", name := "now", desc := "()I" } : Jvm.MethodName) prog_6_method_16_code (1 : Nat) (Option.some Jvm.ClassFile.FieldType.int)) ∈ m_tall := m_in 521 (by decide +kernel) rfl
theorem mw_522 : (Jvm.Cond.methodLink "RelayPassagesLaw" (65 : Nat) ({ cls := "RelayPassagesModel", name := "book", desc := "(III)I" } : Jvm.MethodName)) ∈ m_tall := m_in 522 (by decide +kernel) rfl
theorem mw_523 : (Jvm.Cond.instanceMethod ({ cls := "RelayPassagesModel", name := "book", desc := "(III)I" } : Jvm.MethodName)) ∈ m_tall := m_in 523 (by decide +kernel) rfl
theorem mw_524 : (Jvm.Cond.selects "RelayPassagesModel" ({ cls := "RelayPassagesModel", name := "book", desc := "(III)I" } : Jvm.MethodName) ({ cls := "RelayPassagesModel", name := "book", desc := "(III)I" } : Jvm.MethodName)) ∈ m_tall := m_in 524 (by decide +kernel) rfl
theorem mw_525 : (Jvm.Cond.code ({ cls := "RelayPassagesModel", name := "book", desc := "(III)I" } : Jvm.MethodName) prog_6_method_18_code (5 : Nat) (Option.some Jvm.ClassFile.FieldType.int)) ∈ m_tall := m_in 525 (by decide +kernel) rfl
theorem mw_526 : (Jvm.Cond.methodLink "RelayPassagesModel" (88 : Nat) ({ cls := "RelayPassagesModel", name := "lacks", desc := "(III)I" } : Jvm.MethodName)) ∈ m_tall := m_in 526 (by decide +kernel) rfl
theorem mw_528 : (Jvm.Cond.instanceMethod ({ cls := "RelayPassagesModel", name := "lacks", desc := "(III)I" } : Jvm.MethodName)) ∈ m_tall := m_in 528 (by decide +kernel) rfl
theorem mw_529 : (Jvm.Cond.code ({ cls := "RelayPassagesModel", name := "lacks", desc := "(III)I" } : Jvm.MethodName) prog_6_method_17_code (4 : Nat) (Option.some Jvm.ClassFile.FieldType.int)) ∈ m_tall := m_in 529 (by decide +kernel) rfl
theorem mw_530 : (Jvm.Cond.methodLink "RelayPassagesModel" (91 : Nat) ({ cls := "RelayPassagesModel", name := "best", desc := "(III)I" } : Jvm.MethodName)) ∈ m_tall := m_in 530 (by decide +kernel) rfl
theorem mw_532 : (Jvm.Cond.instanceMethod ({ cls := "RelayPassagesModel", name := "best", desc := "(III)I" } : Jvm.MethodName)) ∈ m_tall := m_in 532 (by decide +kernel) rfl
theorem mw_533 : (Jvm.Cond.code ({ cls := "RelayPassagesModel", name := "best", desc := "(III)I" } : Jvm.MethodName) prog_6_method_12_code (5 : Nat) (Option.some Jvm.ClassFile.FieldType.int)) ∈ m_tall := m_in 533 (by decide +kernel) rfl
theorem mw_534 : (Jvm.Cond.methodLink "RelayPassagesModel" (70 : Nat) ({ cls := "RelayPassagesModel", name := "lookBack", desc := "(II)V" } : Jvm.MethodName)) ∈ m_tall := m_in 534 (by decide +kernel) rfl
theorem mw_536 : (Jvm.Cond.instanceMethod ({ cls := "RelayPassagesModel", name := "lookBack", desc := "(II)V" } : Jvm.MethodName)) ∈ m_tall := m_in 536 (by decide +kernel) rfl
theorem mw_537 : (Jvm.Cond.code ({ cls := "RelayPassagesModel", name := "lookBack", desc := "(II)V" } : Jvm.MethodName) prog_6_method_11_code (8 : Nat) (Option.none : Option Jvm.ClassFile.FieldType)) ∈ m_tall := m_in 537 (by decide +kernel) rfl
theorem mw_538 : (Jvm.Cond.methodLink "RelayPassagesModel" (67 : Nat) ({ cls := "RelayPassagesModel", name := "isFree", desc := "(III)Z" } : Jvm.MethodName)) ∈ m_tall := m_in 538 (by decide +kernel) rfl
theorem mw_540 : (Jvm.Cond.instanceMethod ({ cls := "RelayPassagesModel", name := "isFree", desc := "(III)Z" } : Jvm.MethodName)) ∈ m_tall := m_in 540 (by decide +kernel) rfl
theorem mw_541 : (Jvm.Cond.code ({ cls := "RelayPassagesModel", name := "isFree", desc := "(III)Z" } : Jvm.MethodName) prog_6_method_10_code (4 : Nat) (Option.some Jvm.ClassFile.FieldType.boolean)) ∈ m_tall := m_in 541 (by decide +kernel) rfl
theorem mw_542 : (Jvm.Cond.methodLink "RelayPassagesModel" (59 : Nat) ({ cls := "RelayPassagesModel", name := "used", desc := "(III)I" } : Jvm.MethodName)) ∈ m_tall := m_in 542 (by decide +kernel) rfl
theorem mw_544 : (Jvm.Cond.instanceMethod ({ cls := "RelayPassagesModel", name := "used", desc := "(III)I" } : Jvm.MethodName)) ∈ m_tall := m_in 544 (by decide +kernel) rfl
theorem mw_545 : (Jvm.Cond.code ({ cls := "RelayPassagesModel", name := "used", desc := "(III)I" } : Jvm.MethodName) prog_6_method_9_code (6 : Nat) (Option.some Jvm.ClassFile.FieldType.int)) ∈ m_tall := m_in 545 (by decide +kernel) rfl
theorem mw_546 : (Jvm.Cond.methodLink "RelayPassagesModel" (55 : Nat) ({ cls := "RelayPassagesModel", name := "goes", desc := "(IIII)Z" } : Jvm.MethodName)) ∈ m_tall := m_in 546 (by decide +kernel) rfl
theorem mw_548 : (Jvm.Cond.instanceMethod ({ cls := "RelayPassagesModel", name := "goes", desc := "(IIII)Z" } : Jvm.MethodName)) ∈ m_tall := m_in 548 (by decide +kernel) rfl
theorem mw_549 : (Jvm.Cond.code ({ cls := "RelayPassagesModel", name := "goes", desc := "(IIII)Z" } : Jvm.MethodName) prog_6_method_8_code (5 : Nat) (Option.some Jvm.ClassFile.FieldType.boolean)) ∈ m_tall := m_in 549 (by decide +kernel) rfl
theorem mw_550 : (Jvm.Cond.methodLink "RelayPassagesModel" (94 : Nat) ({ cls := "RelayPassagesModel", name := "lay", desc := "(III)V" } : Jvm.MethodName)) ∈ m_tall := m_in 550 (by decide +kernel) rfl
theorem mw_552 : (Jvm.Cond.instanceMethod ({ cls := "RelayPassagesModel", name := "lay", desc := "(III)V" } : Jvm.MethodName)) ∈ m_tall := m_in 552 (by decide +kernel) rfl
theorem mw_553 : (Jvm.Cond.code ({ cls := "RelayPassagesModel", name := "lay", desc := "(III)V" } : Jvm.MethodName) prog_6_method_13_code (9 : Nat) (Option.none : Option Jvm.ClassFile.FieldType)) ∈ m_tall := m_in 553 (by decide +kernel) rfl
theorem mw_554 : (Jvm.Cond.methodLink "RelayPassagesLaw" (68 : Nat) ({ cls := "RelayPassagesModel", name := "whatIf", desc := "(III)I" } : Jvm.MethodName)) ∈ m_tall := m_in 554 (by decide +kernel) rfl
theorem mw_555 : (Jvm.Cond.instanceMethod ({ cls := "RelayPassagesModel", name := "whatIf", desc := "(III)I" } : Jvm.MethodName)) ∈ m_tall := m_in 555 (by decide +kernel) rfl
theorem mw_556 : (Jvm.Cond.selects "RelayPassagesModel" ({ cls := "RelayPassagesModel", name := "whatIf", desc := "(III)I" } : Jvm.MethodName) ({ cls := "RelayPassagesModel", name := "whatIf", desc := "(III)I" } : Jvm.MethodName)) ∈ m_tall := m_in 556 (by decide +kernel) rfl
theorem mw_557 : (Jvm.Cond.code ({ cls := "RelayPassagesModel", name := "whatIf", desc := "(III)I" } : Jvm.MethodName) prog_6_method_19_code (4 : Nat) (Option.some Jvm.ClassFile.FieldType.int)) ∈ m_tall := m_in 557 (by decide +kernel) rfl
theorem mw_558 : (Jvm.Cond.methodLink "RelayPassagesLaw" (72 : Nat) ({ cls := "RelayPassagesModel", name := "cancel", desc := "(I)I" } : Jvm.MethodName)) ∈ m_tall := m_in 558 (by decide +kernel) rfl
theorem mw_559 : (Jvm.Cond.instanceMethod ({ cls := "RelayPassagesModel", name := "cancel", desc := "(I)I" } : Jvm.MethodName)) ∈ m_tall := m_in 559 (by decide +kernel) rfl
theorem mw_560 : (Jvm.Cond.selects "RelayPassagesModel" ({ cls := "RelayPassagesModel", name := "cancel", desc := "(I)I" } : Jvm.MethodName) ({ cls := "RelayPassagesModel", name := "cancel", desc := "(I)I" } : Jvm.MethodName)) ∈ m_tall := m_in 560 (by decide +kernel) rfl
theorem mw_561 : (Jvm.Cond.code ({ cls := "RelayPassagesModel", name := "cancel", desc := "(I)I" } : Jvm.MethodName) prog_6_method_23_code (3 : Nat) (Option.some Jvm.ClassFile.FieldType.int)) ∈ m_tall := m_in 561 (by decide +kernel) rfl
theorem mw_562 : (Jvm.Cond.methodLink "RelayPassagesModel" (98 : Nat) ({ cls := "RelayPassagesModel", name := "noParcel", desc := "(I)Z" } : Jvm.MethodName)) ∈ m_tall := m_in 562 (by decide +kernel) rfl
theorem mw_564 : (Jvm.Cond.instanceMethod ({ cls := "RelayPassagesModel", name := "noParcel", desc := "(I)Z" } : Jvm.MethodName)) ∈ m_tall := m_in 564 (by decide +kernel) rfl
theorem mw_565 : (Jvm.Cond.code ({ cls := "RelayPassagesModel", name := "noParcel", desc := "(I)Z" } : Jvm.MethodName) prog_6_method_20_code (2 : Nat) (Option.some Jvm.ClassFile.FieldType.boolean)) ∈ m_tall := m_in 565 (by decide +kernel) rfl
theorem mw_566 : (Jvm.Cond.methodLink "RelayPassagesModel" (101 : Nat) ({ cls := "RelayPassagesModel", name := "isLive", desc := "(I)Z" } : Jvm.MethodName)) ∈ m_tall := m_in 566 (by decide +kernel) rfl
theorem mw_568 : (Jvm.Cond.instanceMethod ({ cls := "RelayPassagesModel", name := "isLive", desc := "(I)Z" } : Jvm.MethodName)) ∈ m_tall := m_in 568 (by decide +kernel) rfl
theorem mw_569 : (Jvm.Cond.code ({ cls := "RelayPassagesModel", name := "isLive", desc := "(I)Z" } : Jvm.MethodName) prog_6_method_21_code (2 : Nat) (Option.some Jvm.ClassFile.FieldType.boolean)) ∈ m_tall := m_in 569 (by decide +kernel) rfl
theorem mw_570 : (Jvm.Cond.methodLink "RelayPassagesModel" (104 : Nat) ({ cls := "RelayPassagesModel", name := "cutOff", desc := "(I)V" } : Jvm.MethodName)) ∈ m_tall := m_in 570 (by decide +kernel) rfl
theorem mw_572 : (Jvm.Cond.instanceMethod ({ cls := "RelayPassagesModel", name := "cutOff", desc := "(I)V" } : Jvm.MethodName)) ∈ m_tall := m_in 572 (by decide +kernel) rfl
theorem mw_573 : (Jvm.Cond.code ({ cls := "RelayPassagesModel", name := "cutOff", desc := "(I)V" } : Jvm.MethodName) prog_6_method_22_code (2 : Nat) (Option.none : Option Jvm.ClassFile.FieldType)) ∈ m_tall := m_in 573 (by decide +kernel) rfl
theorem mw_574 : (Jvm.Cond.methodLink "RelayPassagesLaw" (75 : Nat) ({ cls := "RelayPassagesModel", name := "cut", desc := "(II)I" } : Jvm.MethodName)) ∈ m_tall := m_in 574 (by decide +kernel) rfl
theorem mw_575 : (Jvm.Cond.instanceMethod ({ cls := "RelayPassagesModel", name := "cut", desc := "(II)I" } : Jvm.MethodName)) ∈ m_tall := m_in 575 (by decide +kernel) rfl
theorem mw_576 : (Jvm.Cond.selects "RelayPassagesModel" ({ cls := "RelayPassagesModel", name := "cut", desc := "(II)I" } : Jvm.MethodName) ({ cls := "RelayPassagesModel", name := "cut", desc := "(II)I" } : Jvm.MethodName)) ∈ m_tall := m_in 576 (by decide +kernel) rfl
theorem mw_577 : (Jvm.Cond.code ({ cls := "RelayPassagesModel", name := "cut", desc := "(II)I" } : Jvm.MethodName) prog_6_method_24_code (8 : Nat) (Option.some Jvm.ClassFile.FieldType.int)) ∈ m_tall := m_in 577 (by decide +kernel) rfl
theorem mw_578 : (Jvm.Cond.methodLink "RelayPassagesLaw" (79 : Nat) ({ cls := "RelayPassagesModel", name := "tick", desc := "()I" } : Jvm.MethodName)) ∈ m_tall := m_in 578 (by decide +kernel) rfl
theorem mw_579 : (Jvm.Cond.instanceMethod ({ cls := "RelayPassagesModel", name := "tick", desc := "()I" } : Jvm.MethodName)) ∈ m_tall := m_in 579 (by decide +kernel) rfl
theorem mw_580 : (Jvm.Cond.selects "RelayPassagesModel" ({ cls := "RelayPassagesModel", name := "tick", desc := "()I" } : Jvm.MethodName) ({ cls := "RelayPassagesModel", name := "tick", desc := "()I" } : Jvm.MethodName)) ∈ m_tall := m_in 580 (by decide +kernel) rfl
theorem mw_581 : (Jvm.Cond.code ({ cls := "RelayPassagesModel", name := "tick", desc := "()I" } : Jvm.MethodName) prog_6_method_25_code (3 : Nat) (Option.some Jvm.ClassFile.FieldType.int)) ∈ m_tall := m_in 581 (by decide +kernel) rfl
theorem mw_582 : (Jvm.Cond.methodLink "RelayPassagesLaw" (83 : Nat) ({ cls := "RelayPassagesModel", name := "state", desc := "(I)I" } : Jvm.MethodName)) ∈ m_tall := m_in 582 (by decide +kernel) rfl
theorem mw_583 : (Jvm.Cond.instanceMethod ({ cls := "RelayPassagesModel", name := "state", desc := "(I)I" } : Jvm.MethodName)) ∈ m_tall := m_in 583 (by decide +kernel) rfl
theorem mw_584 : (Jvm.Cond.selects "RelayPassagesModel" ({ cls := "RelayPassagesModel", name := "state", desc := "(I)I" } : Jvm.MethodName) ({ cls := "RelayPassagesModel", name := "state", desc := "(I)I" } : Jvm.MethodName)) ∈ m_tall := m_in 584 (by decide +kernel) rfl
theorem mw_585 : (Jvm.Cond.code ({ cls := "RelayPassagesModel", name := "state", desc := "(I)I" } : Jvm.MethodName) prog_6_method_26_code (2 : Nat) (Option.some Jvm.ClassFile.FieldType.int)) ∈ m_tall := m_in 585 (by decide +kernel) rfl
theorem mw_586 : (Jvm.Cond.methodLink "RelayPassagesLaw" (87 : Nat) ({ cls := "RelayPassagesModel", name := "where", desc := "(I)I" } : Jvm.MethodName)) ∈ m_tall := m_in 586 (by decide +kernel) rfl
theorem mw_587 : (Jvm.Cond.instanceMethod ({ cls := "RelayPassagesModel", name := "where", desc := "(I)I" } : Jvm.MethodName)) ∈ m_tall := m_in 587 (by decide +kernel) rfl
theorem mw_588 : (Jvm.Cond.selects "RelayPassagesModel" ({ cls := "RelayPassagesModel", name := "where", desc := "(I)I" } : Jvm.MethodName) ({ cls := "RelayPassagesModel", name := "where", desc := "(I)I" } : Jvm.MethodName)) ∈ m_tall := m_in 588 (by decide +kernel) rfl
theorem mw_589 : (Jvm.Cond.code ({ cls := "RelayPassagesModel", name := "where", desc := "(I)I" } : Jvm.MethodName) prog_6_method_27_code (2 : Nat) (Option.some Jvm.ClassFile.FieldType.int)) ∈ m_tall := m_in 589 (by decide +kernel) rfl
theorem mw_590 : (Jvm.Cond.methodLink "RelayPassagesLaw" (91 : Nat) ({ cls := "RelayPassagesModel", name := "arrival", desc := "(I)I" } : Jvm.MethodName)) ∈ m_tall := m_in 590 (by decide +kernel) rfl
theorem mw_591 : (Jvm.Cond.instanceMethod ({ cls := "RelayPassagesModel", name := "arrival", desc := "(I)I" } : Jvm.MethodName)) ∈ m_tall := m_in 591 (by decide +kernel) rfl
theorem mw_592 : (Jvm.Cond.selects "RelayPassagesModel" ({ cls := "RelayPassagesModel", name := "arrival", desc := "(I)I" } : Jvm.MethodName) ({ cls := "RelayPassagesModel", name := "arrival", desc := "(I)I" } : Jvm.MethodName)) ∈ m_tall := m_in 592 (by decide +kernel) rfl
theorem mw_593 : (Jvm.Cond.code ({ cls := "RelayPassagesModel", name := "arrival", desc := "(I)I" } : Jvm.MethodName) prog_6_method_28_code (2 : Nat) (Option.some Jvm.ClassFile.FieldType.int)) ∈ m_tall := m_in 593 (by decide +kernel) rfl
theorem mw_594 : (Jvm.Cond.methodLink "RelayPassagesLaw" (95 : Nat) ({ cls := "RelayPassagesModel", name := "step", desc := "(II)I" } : Jvm.MethodName)) ∈ m_tall := m_in 594 (by decide +kernel) rfl
theorem mw_595 : (Jvm.Cond.instanceMethod ({ cls := "RelayPassagesModel", name := "step", desc := "(II)I" } : Jvm.MethodName)) ∈ m_tall := m_in 595 (by decide +kernel) rfl
theorem mw_596 : (Jvm.Cond.selects "RelayPassagesModel" ({ cls := "RelayPassagesModel", name := "step", desc := "(II)I" } : Jvm.MethodName) ({ cls := "RelayPassagesModel", name := "step", desc := "(II)I" } : Jvm.MethodName)) ∈ m_tall := m_in 596 (by decide +kernel) rfl
theorem mw_597 : (Jvm.Cond.code ({ cls := "RelayPassagesModel", name := "step", desc := "(II)I" } : Jvm.MethodName) prog_6_method_29_code (3 : Nat) (Option.some Jvm.ClassFile.FieldType.int)) ∈ m_tall := m_in 597 (by decide +kernel) rfl
theorem mw_598 : (Jvm.Cond.methodLink "RelayPassagesLaw" (99 : Nat) ({ cls := "RelayPassagesModel", name := "linkUsed", desc := "(III)I" } : Jvm.MethodName)) ∈ m_tall := m_in 598 (by decide +kernel) rfl
theorem mw_599 : (Jvm.Cond.instanceMethod ({ cls := "RelayPassagesModel", name := "linkUsed", desc := "(III)I" } : Jvm.MethodName)) ∈ m_tall := m_in 599 (by decide +kernel) rfl
theorem mw_600 : (Jvm.Cond.selects "RelayPassagesModel" ({ cls := "RelayPassagesModel", name := "linkUsed", desc := "(III)I" } : Jvm.MethodName) ({ cls := "RelayPassagesModel", name := "linkUsed", desc := "(III)I" } : Jvm.MethodName)) ∈ m_tall := m_in 600 (by decide +kernel) rfl
theorem mw_601 : (Jvm.Cond.code ({ cls := "RelayPassagesModel", name := "linkUsed", desc := "(III)I" } : Jvm.MethodName) prog_6_method_30_code (4 : Nat) (Option.some Jvm.ClassFile.FieldType.int)) ∈ m_tall := m_in 601 (by decide +kernel) rfl
theorem mw_602 : (Jvm.Cond.methodLink "RelayPassagesModel" (108 : Nat) ({ cls := "RelayPassagesModel", name := "noTick", desc := "(I)Z" } : Jvm.MethodName)) ∈ m_tall := m_in 602 (by decide +kernel) rfl
theorem mw_603 : (Jvm.Cond.static ({ cls := "RelayPassagesModel", name := "noTick", desc := "(I)Z" } : Jvm.MethodName)) ∈ m_tall := m_in 603 (by decide +kernel) rfl
theorem mw_604 : (Jvm.Cond.code ({ cls := "RelayPassagesModel", name := "noTick", desc := "(I)Z" } : Jvm.MethodName) prog_6_method_5_code (1 : Nat) (Option.some Jvm.ClassFile.FieldType.boolean)) ∈ m_tall := m_in 604 (by decide +kernel) rfl
theorem mw_605 : (Jvm.Cond.methodLink "RelayPassagesLaw" (103 : Nat) ({ cls := "RelayPassagesModel", name := "stored", desc := "(II)I" } : Jvm.MethodName)) ∈ m_tall := m_in 605 (by decide +kernel) rfl
theorem mw_606 : (Jvm.Cond.instanceMethod ({ cls := "RelayPassagesModel", name := "stored", desc := "(II)I" } : Jvm.MethodName)) ∈ m_tall := m_in 606 (by decide +kernel) rfl
theorem mw_607 : (Jvm.Cond.selects "RelayPassagesModel" ({ cls := "RelayPassagesModel", name := "stored", desc := "(II)I" } : Jvm.MethodName) ({ cls := "RelayPassagesModel", name := "stored", desc := "(II)I" } : Jvm.MethodName)) ∈ m_tall := m_in 607 (by decide +kernel) rfl
theorem mw_608 : (Jvm.Cond.code ({ cls := "RelayPassagesModel", name := "stored", desc := "(II)I" } : Jvm.MethodName) prog_6_method_31_code (3 : Nat) (Option.some Jvm.ClassFile.FieldType.int)) ∈ m_tall := m_in 608 (by decide +kernel) rfl
theorem mw_609 : (Jvm.Cond.methodLink "RelayPassagesLaw" (108 : Nat) ({ cls := "RelayPassagesModel", name := "open", desc := "(III)Z" } : Jvm.MethodName)) ∈ m_tall := m_in 609 (by decide +kernel) rfl
theorem mw_610 : (Jvm.Cond.instanceMethod ({ cls := "RelayPassagesModel", name := "open", desc := "(III)Z" } : Jvm.MethodName)) ∈ m_tall := m_in 610 (by decide +kernel) rfl
theorem mw_611 : (Jvm.Cond.selects "RelayPassagesModel" ({ cls := "RelayPassagesModel", name := "open", desc := "(III)Z" } : Jvm.MethodName) ({ cls := "RelayPassagesModel", name := "open", desc := "(III)Z" } : Jvm.MethodName)) ∈ m_tall := m_in 611 (by decide +kernel) rfl
theorem mw_612 : (Jvm.Cond.code ({ cls := "RelayPassagesModel", name := "open", desc := "(III)Z" } : Jvm.MethodName) prog_6_method_32_code (4 : Nat) (Option.some Jvm.ClassFile.FieldType.boolean)) ∈ m_tall := m_in 612 (by decide +kernel) rfl
theorem mw_613 : (Jvm.Cond.methodLink "RelayPassagesLaw" (112 : Nat) ({ cls := "RelayPassagesModel", name := "free", desc := "(II)I" } : Jvm.MethodName)) ∈ m_tall := m_in 613 (by decide +kernel) rfl
theorem mw_614 : (Jvm.Cond.instanceMethod ({ cls := "RelayPassagesModel", name := "free", desc := "(II)I" } : Jvm.MethodName)) ∈ m_tall := m_in 614 (by decide +kernel) rfl
theorem mw_615 : (Jvm.Cond.selects "RelayPassagesModel" ({ cls := "RelayPassagesModel", name := "free", desc := "(II)I" } : Jvm.MethodName) ({ cls := "RelayPassagesModel", name := "free", desc := "(II)I" } : Jvm.MethodName)) ∈ m_tall := m_in 615 (by decide +kernel) rfl
theorem mw_616 : (Jvm.Cond.code ({ cls := "RelayPassagesModel", name := "free", desc := "(II)I" } : Jvm.MethodName) prog_6_method_33_code (3 : Nat) (Option.some Jvm.ClassFile.FieldType.int)) ∈ m_tall := m_in 616 (by decide +kernel) rfl
theorem mw_617 : (Jvm.Cond.arrayClass Jvm.ClassFile.FieldType.long) ∈ m_tall := m_in 617 (by decide +kernel) rfl
theorem mwp_0 : Cond.selects "RelayPassages" ⟨"RelayPassages", "parcelOf", "(I)LRelayPassages$Parcel;"⟩ ⟨"RelayPassages", "parcelOf", "(I)LRelayPassages$Parcel;"⟩ ∈ m_tall := m_inp 0 (by decide +kernel) rfl
theorem mwp_2 : Cond.selects "RelayPassages" ⟨"RelayPassages", "checkPair", "(II)V"⟩ ⟨"RelayPassages", "checkPair", "(II)V"⟩ ∈ m_tall := m_inp 2 (by decide +kernel) rfl
theorem mwp_3 : Cond.selects "RelayPassages" ⟨"RelayPassages", "checkBooking", "(III)V"⟩ ⟨"RelayPassages", "checkBooking", "(III)V"⟩ ∈ m_tall := m_inp 3 (by decide +kernel) rfl
theorem mwp_4 : Cond.selects "RelayPassages$WayFinder" ⟨"RelayPassages$WayFinder", "markLeading", "(LRelayPassages$Network;III)V"⟩ ⟨"RelayPassages$WayFinder", "markLeading", "(LRelayPassages$Network;III)V"⟩ ∈ m_tall := m_inp 4 (by decide +kernel) rfl
theorem mwp_5 : Cond.selects "RelayPassages$WayFinder" ⟨"RelayPassages$WayFinder", "walk", "(LRelayPassages$Network;III)V"⟩ ⟨"RelayPassages$WayFinder", "walk", "(LRelayPassages$Network;III)V"⟩ ∈ m_tall := m_inp 5 (by decide +kernel) rfl
theorem mwp_6 : Cond.selects "RelayPassages" ⟨"RelayPassages", "giveJourney", "(LRelayPassages$Parcel;II)V"⟩ ⟨"RelayPassages", "giveJourney", "(LRelayPassages$Parcel;II)V"⟩ ∈ m_tall := m_inp 6 (by decide +kernel) rfl
theorem mwp_7 : Cond.selects "RelayPassages" ⟨"RelayPassages", "cutOff", "(LRelayPassages$Parcel;)I"⟩ ⟨"RelayPassages", "cutOff", "(LRelayPassages$Parcel;)I"⟩ ∈ m_tall := m_inp 7 (by decide +kernel) rfl
theorem mwp_8 : Cond.selects "RelayPassages" ⟨"RelayPassages", "cutOffTouched", "(II)J"⟩ ⟨"RelayPassages", "cutOffTouched", "(II)J"⟩ ∈ m_tall := m_inp 8 (by decide +kernel) rfl
theorem mwp_9 : Cond.selects "RelayPassages" ⟨"RelayPassages", "bookAnew", "(LRelayPassages$Parcel;)Z"⟩ ⟨"RelayPassages", "bookAnew", "(LRelayPassages$Parcel;)Z"⟩ ∈ m_tall := m_inp 9 (by decide +kernel) rfl
theorem mwp_10 : Cond.selects "RelayPassagesModel" ⟨"RelayPassagesModel", "noPair", "(II)Z"⟩ ⟨"RelayPassagesModel", "noPair", "(II)Z"⟩ ∈ m_tall := m_inp 10 (by decide +kernel) rfl
theorem mwp_11 : Cond.selects "RelayPassagesModel" ⟨"RelayPassagesModel", "noNode", "(I)Z"⟩ ⟨"RelayPassagesModel", "noNode", "(I)Z"⟩ ∈ m_tall := m_inp 11 (by decide +kernel) rfl
theorem mwp_12 : Cond.selects "RelayPassagesModel" ⟨"RelayPassagesModel", "isOpen", "(III)Z"⟩ ⟨"RelayPassagesModel", "isOpen", "(III)Z"⟩ ∈ m_tall := m_inp 12 (by decide +kernel) rfl
theorem mwp_13 : Cond.selects "RelayPassagesModel" ⟨"RelayPassagesModel", "set", "(IIIZ)V"⟩ ⟨"RelayPassagesModel", "set", "(IIIZ)V"⟩ ∈ m_tall := m_inp 13 (by decide +kernel) rfl
theorem mwp_14 : Cond.selects "RelayPassagesModel" ⟨"RelayPassagesModel", "lacks", "(III)I"⟩ ⟨"RelayPassagesModel", "lacks", "(III)I"⟩ ∈ m_tall := m_inp 14 (by decide +kernel) rfl
theorem mwp_15 : Cond.selects "RelayPassagesModel" ⟨"RelayPassagesModel", "best", "(III)I"⟩ ⟨"RelayPassagesModel", "best", "(III)I"⟩ ∈ m_tall := m_inp 15 (by decide +kernel) rfl
theorem mwp_16 : Cond.selects "RelayPassagesModel" ⟨"RelayPassagesModel", "lookBack", "(II)V"⟩ ⟨"RelayPassagesModel", "lookBack", "(II)V"⟩ ∈ m_tall := m_inp 16 (by decide +kernel) rfl
theorem mwp_17 : Cond.selects "RelayPassagesModel" ⟨"RelayPassagesModel", "isFree", "(III)Z"⟩ ⟨"RelayPassagesModel", "isFree", "(III)Z"⟩ ∈ m_tall := m_inp 17 (by decide +kernel) rfl
theorem mwp_18 : Cond.selects "RelayPassagesModel" ⟨"RelayPassagesModel", "used", "(III)I"⟩ ⟨"RelayPassagesModel", "used", "(III)I"⟩ ∈ m_tall := m_inp 18 (by decide +kernel) rfl
theorem mwp_19 : Cond.selects "RelayPassagesModel" ⟨"RelayPassagesModel", "goes", "(IIII)Z"⟩ ⟨"RelayPassagesModel", "goes", "(IIII)Z"⟩ ∈ m_tall := m_inp 19 (by decide +kernel) rfl
theorem mwp_20 : Cond.selects "RelayPassagesModel" ⟨"RelayPassagesModel", "lay", "(III)V"⟩ ⟨"RelayPassagesModel", "lay", "(III)V"⟩ ∈ m_tall := m_inp 20 (by decide +kernel) rfl
theorem mwp_21 : Cond.selects "RelayPassagesModel" ⟨"RelayPassagesModel", "noParcel", "(I)Z"⟩ ⟨"RelayPassagesModel", "noParcel", "(I)Z"⟩ ∈ m_tall := m_inp 21 (by decide +kernel) rfl
theorem mwp_22 : Cond.selects "RelayPassagesModel" ⟨"RelayPassagesModel", "isLive", "(I)Z"⟩ ⟨"RelayPassagesModel", "isLive", "(I)Z"⟩ ∈ m_tall := m_inp 22 (by decide +kernel) rfl
theorem mwp_23 : Cond.selects "RelayPassagesModel" ⟨"RelayPassagesModel", "cutOff", "(I)V"⟩ ⟨"RelayPassagesModel", "cutOff", "(I)V"⟩ ∈ m_tall := m_inp 23 (by decide +kernel) rfl
theorem mw_oi : Cond.instanceMethod Lib.objectInit ∈ m_tall := mw_19
theorem mw_oc : Cond.code Lib.objectInit ⟨#[0xb1]⟩ 1 none ∈ m_tall := m_in 20 (by decide +kernel) rfl
theorem mw_ms : Cond.static Lib.Math.max.name ∈ m_tall := mw_399
theorem mw_mi : Cond.initialized "java/lang/Math" ∈ m_tall := mw_12
theorem mw_mc : Cond.code Lib.Math.max.name Lib.Math.max.code 2 (some .int) ∈ m_tall := m_in 400 (by decide +kernel) rfl
theorem m_fact_0 : m_fact 0 := ⟨Or.inl ⟨rfl, mw_25⟩, mw_2, (by decide +kernel), ⟨(by decide), (by decide)⟩, (by decide +kernel)⟩
theorem m_fact_1 : m_fact 1 := ⟨Or.inl ⟨rfl, mw_140⟩, mw_2, (by decide +kernel), ⟨(by decide), (by decide)⟩, (by decide +kernel)⟩
theorem m_fact_2 : m_fact 2 := ⟨Or.inl ⟨rfl, mw_127⟩, mw_2, (by decide +kernel), ⟨(by decide), (by decide)⟩, (by decide +kernel)⟩
theorem m_fact_3 : m_fact 3 := ⟨Or.inl ⟨rfl, mw_123⟩, mw_2, (by decide +kernel), ⟨(by decide), (by decide)⟩, (by decide +kernel)⟩
theorem m_fact_4 : m_fact 4 := ⟨Or.inl ⟨rfl, mw_264⟩, mw_2, (by decide +kernel), ⟨(by decide), (by decide)⟩, (by decide +kernel)⟩
theorem m_fact_5 : m_fact 5 := ⟨Or.inl ⟨rfl, mw_157⟩, mw_2, (by decide +kernel), ⟨(by decide), (by decide)⟩, (by decide +kernel)⟩
theorem m_fact_6 : m_fact 6 := ⟨Or.inl ⟨rfl, mw_283⟩, mw_2, (by decide +kernel), ⟨(by decide), (by decide)⟩, (by decide +kernel)⟩
theorem m_fact_7 : m_fact 7 := ⟨Or.inl ⟨rfl, mw_415⟩, mw_2, (by decide +kernel), ⟨(by decide), (by decide)⟩, (by decide +kernel)⟩
theorem m_fact_8 : m_fact 8 := ⟨Or.inl ⟨rfl, mw_137⟩, mw_2, (by decide +kernel), ⟨(by decide), (by decide)⟩, (by decide +kernel)⟩
theorem m_fact_9 : m_fact 9 := ⟨Or.inl ⟨rfl, mw_149⟩, mw_2, (by decide +kernel), ⟨(by decide), (by decide)⟩, (by decide +kernel)⟩
theorem m_fact_10 : m_fact 10 := ⟨Or.inl ⟨rfl, mw_165⟩, mw_2, (by decide +kernel), ⟨(by decide), (by decide)⟩, (by decide +kernel)⟩
theorem m_fact_11 : m_fact 11 := ⟨Or.inl ⟨rfl, mw_311⟩, mw_2, (by decide +kernel), ⟨(by decide), (by decide)⟩, (by decide +kernel)⟩
theorem m_fact_12 : m_fact 12 := ⟨Or.inl ⟨rfl, mw_356⟩, mw_2, (by decide +kernel), ⟨(by decide), (by decide)⟩, (by decide +kernel)⟩
theorem m_fact_13 : m_fact 13 := ⟨Or.inl ⟨rfl, mw_404⟩, mw_2, (by decide +kernel), ⟨(by decide), (by decide)⟩, (by decide +kernel)⟩
theorem m_fact_14 : m_fact 14 := ⟨Or.inl ⟨rfl, mw_326⟩, mw_10, (by decide +kernel), ⟨(by decide), (by decide)⟩, (by decide +kernel)⟩
theorem m_fact_15 : m_fact 15 := ⟨Or.inl ⟨rfl, mw_99⟩, mw_10, (by decide +kernel), ⟨(by decide), (by decide)⟩, (by decide +kernel)⟩
theorem m_fact_16 : m_fact 16 := ⟨Or.inl ⟨rfl, mw_391⟩, mw_10, (by decide +kernel), ⟨(by decide), (by decide)⟩, (by decide +kernel)⟩
theorem m_fact_17 : m_fact 17 := ⟨Or.inl ⟨rfl, mw_107⟩, mw_10, (by decide +kernel), ⟨(by decide), (by decide)⟩, (by decide +kernel)⟩
theorem m_fact_18 : m_fact 18 := ⟨Or.inl ⟨rfl, mw_423⟩, mw_10, (by decide +kernel), ⟨(by decide), (by decide)⟩, (by decide +kernel)⟩
theorem m_fact_19 : m_fact 19 := ⟨Or.inl ⟨rfl, mw_56⟩, mw_3, (by decide +kernel), ⟨(by decide), (by decide)⟩, (by decide +kernel)⟩
theorem m_fact_20 : m_fact 20 := ⟨Or.inl ⟨rfl, mw_300⟩, mw_3, (by decide +kernel), ⟨(by decide), (by decide)⟩, (by decide +kernel)⟩
theorem m_fact_21 : m_fact 21 := ⟨Or.inl ⟨rfl, mw_303⟩, mw_3, (by decide +kernel), ⟨(by decide), (by decide)⟩, (by decide +kernel)⟩
theorem m_fact_22 : m_fact 22 := ⟨Or.inl ⟨rfl, mw_306⟩, mw_3, (by decide +kernel), ⟨(by decide), (by decide)⟩, (by decide +kernel)⟩
theorem m_fact_23 : m_fact 23 := ⟨Or.inl ⟨rfl, mw_315⟩, mw_3, (by decide +kernel), ⟨(by decide), (by decide)⟩, (by decide +kernel)⟩
theorem m_fact_24 : m_fact 24 := ⟨Or.inl ⟨rfl, mw_319⟩, mw_3, (by decide +kernel), ⟨(by decide), (by decide)⟩, (by decide +kernel)⟩
theorem m_fact_25 : m_fact 25 := ⟨Or.inl ⟨rfl, mw_322⟩, mw_3, (by decide +kernel), ⟨(by decide), (by decide)⟩, (by decide +kernel)⟩
theorem m_fact_26 : m_fact 26 := ⟨Or.inl ⟨rfl, mw_17⟩, mw_1, (by decide +kernel), ⟨(by decide), (by decide)⟩, (by decide +kernel)⟩
theorem m_fact_27 : m_fact 27 := ⟨Or.inl ⟨rfl, mw_174⟩, mw_1, (by decide +kernel), ⟨(by decide), (by decide)⟩, (by decide +kernel)⟩
theorem m_fact_28 : m_fact 28 := ⟨Or.inl ⟨rfl, mw_271⟩, mw_1, (by decide +kernel), ⟨(by decide), (by decide)⟩, (by decide +kernel)⟩
theorem m_fact_29 : m_fact 29 := ⟨Or.inl ⟨rfl, mw_87⟩, mw_1, (by decide +kernel), ⟨(by decide), (by decide)⟩, (by decide +kernel)⟩
theorem m_fact_30 : m_fact 30 := ⟨Or.inl ⟨rfl, mw_290⟩, mw_1, (by decide +kernel), ⟨(by decide), (by decide)⟩, (by decide +kernel)⟩
theorem m_fact_31 : m_fact 31 := ⟨Or.inl ⟨rfl, mw_363⟩, mw_1, (by decide +kernel), ⟨(by decide), (by decide)⟩, (by decide +kernel)⟩
theorem m_fact_32 : m_fact 32 := ⟨Or.inl ⟨rfl, mw_371⟩, mw_1, (by decide +kernel), ⟨(by decide), (by decide)⟩, (by decide +kernel)⟩
theorem m_fact_33 : m_fact 33 := ⟨Or.inl ⟨rfl, mw_411⟩, mw_1, (by decide +kernel), ⟨(by decide), (by decide)⟩, (by decide +kernel)⟩
theorem m_fact_34 : m_fact 34 := ⟨Or.inl ⟨rfl, mw_435⟩, mw_1, (by decide +kernel), ⟨(by decide), (by decide)⟩, (by decide +kernel)⟩
theorem m_fact_35 : m_fact 35 := ⟨Or.inl ⟨rfl, mw_91⟩, mw_1, (by decide +kernel), ⟨(by decide), (by decide)⟩, (by decide +kernel)⟩
theorem m_fact_36 : m_fact 36 := ⟨Or.inl ⟨rfl, mw_103⟩, mw_1, (by decide +kernel), ⟨(by decide), (by decide)⟩, (by decide +kernel)⟩
theorem m_fact_37 : m_fact 37 := ⟨Or.inl ⟨rfl, mw_111⟩, mw_1, (by decide +kernel), ⟨(by decide), (by decide)⟩, (by decide +kernel)⟩
theorem m_fact_38 : m_fact 38 := ⟨Or.inl ⟨rfl, mw_115⟩, mw_1, (by decide +kernel), ⟨(by decide), (by decide)⟩, (by decide +kernel)⟩
theorem m_fact_39 : m_fact 39 := ⟨Or.inl ⟨rfl, mw_119⟩, mw_1, (by decide +kernel), ⟨(by decide), (by decide)⟩, (by decide +kernel)⟩
theorem m_fact_40 : m_fact 40 := ⟨Or.inl ⟨rfl, mw_144⟩, mw_1, (by decide +kernel), ⟨(by decide), (by decide)⟩, (by decide +kernel)⟩
theorem m_fact_41 : m_fact 41 := ⟨Or.inl ⟨rfl, mw_153⟩, mw_1, (by decide +kernel), ⟨(by decide), (by decide)⟩, (by decide +kernel)⟩
theorem m_fact_42 : m_fact 42 := ⟨Or.inl ⟨rfl, mw_161⟩, mw_1, (by decide +kernel), ⟨(by decide), (by decide)⟩, (by decide +kernel)⟩
theorem m_fact_43 : m_fact 43 := ⟨Or.inl ⟨rfl, mw_133⟩, mw_1, (by decide +kernel), ⟨(by decide), (by decide)⟩, (by decide +kernel)⟩
theorem m_fact_44 : m_fact 44 := ⟨Or.inl ⟨rfl, mw_130⟩, mw_1, (by decide +kernel), ⟨(by decide), (by decide)⟩, (by decide +kernel)⟩
theorem m_fact_45 : m_fact 45 := ⟨Or.inl ⟨rfl, mw_95⟩, mw_1, (by decide +kernel), ⟨(by decide), (by decide)⟩, (by decide +kernel)⟩
theorem m_fact_46 : m_fact 46 := ⟨Or.inl ⟨rfl, mw_275⟩, mw_1, (by decide +kernel), ⟨(by decide), (by decide)⟩, (by decide +kernel)⟩
theorem m_fact_47 : m_fact 47 := ⟨Or.inl ⟨rfl, mw_294⟩, mw_1, (by decide +kernel), ⟨(by decide), (by decide)⟩, (by decide +kernel)⟩
theorem m_fact_48 : m_fact 48 := ⟨Or.inl ⟨rfl, mw_352⟩, mw_1, (by decide +kernel), ⟨(by decide), (by decide)⟩, (by decide +kernel)⟩
theorem m_fact_49 : m_fact 49 := ⟨Or.inl ⟨rfl, mw_397⟩, mw_1, (by decide +kernel), ⟨(by decide), (by decide)⟩, (by decide +kernel)⟩
theorem m_fact_50 : m_fact 50 := ⟨Or.inl ⟨rfl, mw_419⟩, mw_1, (by decide +kernel), ⟨(by decide), (by decide)⟩, (by decide +kernel)⟩
theorem m_fact_51 : m_fact 51 := ⟨Or.inl ⟨rfl, mw_428⟩, mw_1, (by decide +kernel), ⟨(by decide), (by decide)⟩, (by decide +kernel)⟩
theorem m_fact_52 : m_fact 52 := ⟨Or.inl ⟨rfl, mw_441⟩, mw_4, (by decide +kernel), ⟨(by decide), (by decide)⟩, (by decide +kernel)⟩
theorem m_fact_53 : m_fact 53 := ⟨Or.inl ⟨rfl, mw_493⟩, mw_4, (by decide +kernel), ⟨(by decide), (by decide)⟩, (by decide +kernel)⟩
theorem m_fact_54 : m_fact 54 := ⟨Or.inl ⟨rfl, mw_509⟩, mw_4, (by decide +kernel), ⟨(by decide), (by decide)⟩, (by decide +kernel)⟩
theorem m_fact_55 : m_fact 55 := ⟨Or.inl ⟨rfl, mw_505⟩, mw_4, (by decide +kernel), ⟨(by decide), (by decide)⟩, (by decide +kernel)⟩
theorem m_fact_56 : m_fact 56 := ⟨Or.inl ⟨rfl, mw_604⟩, mw_4, (by decide +kernel), ⟨(by decide), (by decide)⟩, (by decide +kernel)⟩
theorem m_fact_57 : m_fact 57 := ⟨Or.inl ⟨rfl, mw_513⟩, mw_4, (by decide +kernel), ⟨(by decide), (by decide)⟩, (by decide +kernel)⟩
theorem m_fact_58 : m_fact 58 := ⟨Or.inl ⟨rfl, mw_517⟩, mw_4, (by decide +kernel), ⟨(by decide), (by decide)⟩, (by decide +kernel)⟩
theorem m_fact_59 : m_fact 59 := ⟨Or.inl ⟨rfl, mw_549⟩, mw_4, (by decide +kernel), ⟨(by decide), (by decide)⟩, (by decide +kernel)⟩
theorem m_fact_60 : m_fact 60 := ⟨Or.inl ⟨rfl, mw_545⟩, mw_4, (by decide +kernel), ⟨(by decide), (by decide)⟩, (by decide +kernel)⟩
theorem m_fact_61 : m_fact 61 := ⟨Or.inl ⟨rfl, mw_541⟩, mw_4, (by decide +kernel), ⟨(by decide), (by decide)⟩, (by decide +kernel)⟩
theorem m_fact_62 : m_fact 62 := ⟨Or.inl ⟨rfl, mw_537⟩, mw_4, (by decide +kernel), ⟨(by decide), (by decide)⟩, (by decide +kernel)⟩
theorem m_fact_63 : m_fact 63 := ⟨Or.inl ⟨rfl, mw_533⟩, mw_4, (by decide +kernel), ⟨(by decide), (by decide)⟩, (by decide +kernel)⟩
theorem m_fact_64 : m_fact 64 := ⟨Or.inl ⟨rfl, mw_553⟩, mw_4, (by decide +kernel), ⟨(by decide), (by decide)⟩, (by decide +kernel)⟩
theorem m_fact_65 : m_fact 65 := ⟨Or.inl ⟨rfl, mw_497⟩, mw_4, (by decide +kernel), ⟨(by decide), (by decide)⟩, (by decide +kernel)⟩
theorem m_fact_66 : m_fact 66 := ⟨Or.inl ⟨rfl, mw_501⟩, mw_4, (by decide +kernel), ⟨(by decide), (by decide)⟩, (by decide +kernel)⟩
theorem m_fact_67 : m_fact 67 := ⟨Or.inl ⟨rfl, mw_521⟩, mw_4, (by decide +kernel), ⟨(by decide), (by decide)⟩, (by decide +kernel)⟩
theorem m_fact_68 : m_fact 68 := ⟨Or.inl ⟨rfl, mw_529⟩, mw_4, (by decide +kernel), ⟨(by decide), (by decide)⟩, (by decide +kernel)⟩
theorem m_fact_69 : m_fact 69 := ⟨Or.inl ⟨rfl, mw_525⟩, mw_4, (by decide +kernel), ⟨(by decide), (by decide)⟩, (by decide +kernel)⟩
theorem m_fact_70 : m_fact 70 := ⟨Or.inl ⟨rfl, mw_557⟩, mw_4, (by decide +kernel), ⟨(by decide), (by decide)⟩, (by decide +kernel)⟩
theorem m_fact_71 : m_fact 71 := ⟨Or.inl ⟨rfl, mw_565⟩, mw_4, (by decide +kernel), ⟨(by decide), (by decide)⟩, (by decide +kernel)⟩
theorem m_fact_72 : m_fact 72 := ⟨Or.inl ⟨rfl, mw_569⟩, mw_4, (by decide +kernel), ⟨(by decide), (by decide)⟩, (by decide +kernel)⟩
theorem m_fact_73 : m_fact 73 := ⟨Or.inl ⟨rfl, mw_573⟩, mw_4, (by decide +kernel), ⟨(by decide), (by decide)⟩, (by decide +kernel)⟩
theorem m_fact_74 : m_fact 74 := ⟨Or.inl ⟨rfl, mw_561⟩, mw_4, (by decide +kernel), ⟨(by decide), (by decide)⟩, (by decide +kernel)⟩
theorem m_fact_75 : m_fact 75 := ⟨Or.inl ⟨rfl, mw_577⟩, mw_4, (by decide +kernel), ⟨(by decide), (by decide)⟩, (by decide +kernel)⟩
theorem m_fact_76 : m_fact 76 := ⟨Or.inl ⟨rfl, mw_581⟩, mw_4, (by decide +kernel), ⟨(by decide), (by decide)⟩, (by decide +kernel)⟩
theorem m_fact_77 : m_fact 77 := ⟨Or.inl ⟨rfl, mw_585⟩, mw_4, (by decide +kernel), ⟨(by decide), (by decide)⟩, (by decide +kernel)⟩
theorem m_fact_78 : m_fact 78 := ⟨Or.inl ⟨rfl, mw_589⟩, mw_4, (by decide +kernel), ⟨(by decide), (by decide)⟩, (by decide +kernel)⟩
theorem m_fact_79 : m_fact 79 := ⟨Or.inl ⟨rfl, mw_593⟩, mw_4, (by decide +kernel), ⟨(by decide), (by decide)⟩, (by decide +kernel)⟩
theorem m_fact_80 : m_fact 80 := ⟨Or.inl ⟨rfl, mw_597⟩, mw_4, (by decide +kernel), ⟨(by decide), (by decide)⟩, (by decide +kernel)⟩
theorem m_fact_81 : m_fact 81 := ⟨Or.inl ⟨rfl, mw_601⟩, mw_4, (by decide +kernel), ⟨(by decide), (by decide)⟩, (by decide +kernel)⟩
theorem m_fact_82 : m_fact 82 := ⟨Or.inl ⟨rfl, mw_608⟩, mw_4, (by decide +kernel), ⟨(by decide), (by decide)⟩, (by decide +kernel)⟩
theorem m_fact_83 : m_fact 83 := ⟨Or.inl ⟨rfl, mw_612⟩, mw_4, (by decide +kernel), ⟨(by decide), (by decide)⟩, (by decide +kernel)⟩
theorem m_fact_84 : m_fact 84 := ⟨Or.inl ⟨rfl, mw_616⟩, mw_4, (by decide +kernel), ⟨(by decide), (by decide)⟩, (by decide +kernel)⟩
theorem m_fact_85 : m_fact 85 := ⟨Or.inr mw_168, mw_0, (by decide +kernel), ⟨(by decide), (by decide)⟩, (by decide +kernel)⟩
theorem m_fact_86 : m_fact 86 := ⟨Or.inr mw_267, mw_0, (by decide +kernel), ⟨(by decide), (by decide)⟩, (by decide +kernel)⟩
theorem m_fact_87 : m_fact 87 := ⟨Or.inr mw_286, mw_0, (by decide +kernel), ⟨(by decide), (by decide)⟩, (by decide +kernel)⟩
theorem m_fact_88 : m_fact 88 := ⟨Or.inr mw_359, mw_0, (by decide +kernel), ⟨(by decide), (by decide)⟩, (by decide +kernel)⟩
theorem m_fact_89 : m_fact 89 := ⟨Or.inr mw_366, mw_0, (by decide +kernel), ⟨(by decide), (by decide)⟩, (by decide +kernel)⟩
theorem m_fact_90 : m_fact 90 := ⟨Or.inr mw_407, mw_0, (by decide +kernel), ⟨(by decide), (by decide)⟩, (by decide +kernel)⟩
theorem m_fact_91 : m_fact 91 := ⟨Or.inr mw_431, mw_0, (by decide +kernel), ⟨(by decide), (by decide)⟩, (by decide +kernel)⟩
theorem m_own_0 : m_own "RelayPassages" 40 0 := by unfold m_own; decide +kernel
theorem m_own_1 : m_own "RelayPassages" 53 1 := by unfold m_own; decide +kernel
theorem m_own_2 : m_own "RelayPassages" 105 2 := by unfold m_own; decide +kernel
end
section
/-! Decoding, jumps, words, method by method: printed by wip/gen/tables.py. -/
theorem m_all_app {α : Type} {p : α → Bool} {a b : List α} (h1 : a.all p = true) (h2 : b.all p = true) : (a ++ b).all p = true := by rw [List.all_append, h1, h2]; rfl
theorem m_dec_0 : (mt_0.all fun r => decide (decode (m_b 0) r.1 = .ok (r.2.1, m_len r.2.1)) && m_jumpb r.1 r.2.1 r.2.2.1) = true := by decide +kernel
set_option maxRecDepth 20000 in
theorem m_wrd_0 : ∀ r ∈ mt_0, m_okw 0 r.1 r.2.1 r.2.2.1 r.2.2.2 := List.forall_mem_cons.mpr ⟨trivial, List.forall_mem_cons.mpr ⟨⟨fun _ => ⟨mw_26, mw_oi, mw_oc⟩, fun h => absurd rfl h⟩, List.forall_mem_cons.mpr ⟨trivial, List.forall_mem_cons.mpr ⟨trivial, List.forall_mem_cons.mpr ⟨mw_51, List.forall_mem_cons.mpr ⟨⟨_, rfl, (by decide), Or.inr (Or.inr ⟨rfl, rfl, rfl, mw_32⟩)⟩, List.forall_mem_cons.mpr ⟨trivial, List.forall_mem_cons.mpr ⟨trivial, List.forall_mem_cons.mpr ⟨mw_51, List.forall_mem_cons.mpr ⟨⟨_, rfl, (by decide), Or.inr (Or.inr ⟨rfl, rfl, rfl, mw_33⟩)⟩, List.forall_mem_cons.mpr ⟨trivial, List.forall_mem_cons.mpr ⟨trivial, List.forall_mem_cons.mpr ⟨mw_51, List.forall_mem_cons.mpr ⟨⟨_, rfl, (by decide), Or.inr (Or.inr ⟨rfl, rfl, rfl, mw_34⟩)⟩, List.forall_mem_cons.mpr ⟨trivial, List.forall_mem_cons.mpr ⟨trivial, List.forall_mem_cons.mpr ⟨mw_51, List.forall_mem_cons.mpr ⟨⟨_, rfl, (by decide), Or.inr (Or.inr ⟨rfl, rfl, rfl, mw_35⟩)⟩, List.forall_mem_cons.mpr ⟨trivial, fun _ h => nomatch h⟩⟩⟩⟩⟩⟩⟩⟩⟩⟩⟩⟩⟩⟩⟩⟩⟩⟩⟩
theorem m_dec_1 : (mt_1.all fun r => decide (decode (m_b 1) r.1 = .ok (r.2.1, m_len r.2.1)) && m_jumpb r.1 r.2.1 r.2.2.1) = true := by decide +kernel
set_option maxRecDepth 20000 in
theorem m_wrd_1 : ∀ r ∈ mt_1, m_okw 1 r.1 r.2.1 r.2.2.1 r.2.2.2 := List.forall_mem_cons.mpr ⟨trivial, List.forall_mem_cons.mpr ⟨trivial, List.forall_mem_cons.mpr ⟨trivial, List.forall_mem_cons.mpr ⟨trivial, List.forall_mem_cons.mpr ⟨trivial, List.forall_mem_cons.mpr ⟨trivial, fun _ h => nomatch h⟩⟩⟩⟩⟩⟩
theorem m_dec_2 : (mt_2.all fun r => decide (decode (m_b 2) r.1 = .ok (r.2.1, m_len r.2.1)) && m_jumpb r.1 r.2.1 r.2.2.1) = true := by decide +kernel
set_option maxRecDepth 20000 in
theorem m_wrd_2 : ∀ r ∈ mt_2, m_okw 2 r.1 r.2.1 r.2.2.1 r.2.2.2 := List.forall_mem_cons.mpr ⟨trivial, List.forall_mem_cons.mpr ⟨trivial, List.forall_mem_cons.mpr ⟨trivial, List.forall_mem_cons.mpr ⟨trivial, List.forall_mem_cons.mpr ⟨trivial, List.forall_mem_cons.mpr ⟨trivial, List.forall_mem_cons.mpr ⟨⟨_, rfl, (by decide), Or.inl mw_31⟩, List.forall_mem_cons.mpr ⟨trivial, List.forall_mem_cons.mpr ⟨⟨fun h => absurd h (by decide), fun _ => ⟨m_fact_44, (Or.inr mw_128), mw_129⟩⟩, List.forall_mem_cons.mpr ⟨trivial, List.forall_mem_cons.mpr ⟨trivial, List.forall_mem_cons.mpr ⟨trivial, List.forall_mem_cons.mpr ⟨trivial, List.forall_mem_cons.mpr ⟨trivial, fun _ h => nomatch h⟩⟩⟩⟩⟩⟩⟩⟩⟩⟩⟩⟩⟩⟩
theorem m_dec_3 : (mt_3.all fun r => decide (decode (m_b 3) r.1 = .ok (r.2.1, m_len r.2.1)) && m_jumpb r.1 r.2.1 r.2.2.1) = true := by decide +kernel
set_option maxRecDepth 20000 in
theorem m_wrd_3 : ∀ r ∈ mt_3, m_okw 3 r.1 r.2.1 r.2.2.1 r.2.2.2 := List.forall_mem_cons.mpr ⟨trivial, List.forall_mem_cons.mpr ⟨trivial, List.forall_mem_cons.mpr ⟨⟨m_fact_2, (Or.inl mw_124), mw_125, mw_126⟩, List.forall_mem_cons.mpr ⟨trivial, List.forall_mem_cons.mpr ⟨trivial, List.forall_mem_cons.mpr ⟨trivial, List.forall_mem_cons.mpr ⟨⟨m_fact_2, (Or.inl mw_124), mw_125, mw_126⟩, List.forall_mem_cons.mpr ⟨trivial, List.forall_mem_cons.mpr ⟨trivial, List.forall_mem_cons.mpr ⟨trivial, List.forall_mem_cons.mpr ⟨trivial, List.forall_mem_cons.mpr ⟨trivial, List.forall_mem_cons.mpr ⟨trivial, List.forall_mem_cons.mpr ⟨trivial, List.forall_mem_cons.mpr ⟨trivial, fun _ h => nomatch h⟩⟩⟩⟩⟩⟩⟩⟩⟩⟩⟩⟩⟩⟩⟩
theorem m_dec_4 : (mt_4.all fun r => decide (decode (m_b 4) r.1 = .ok (r.2.1, m_len r.2.1)) && m_jumpb r.1 r.2.1 r.2.2.1) = true := by decide +kernel
set_option maxRecDepth 20000 in
theorem m_wrd_4 : ∀ r ∈ mt_4, m_okw 4 r.1 r.2.1 r.2.2.1 r.2.2.2 := List.forall_mem_cons.mpr ⟨trivial, List.forall_mem_cons.mpr ⟨⟨_, rfl, (by decide), Or.inl mw_32⟩, List.forall_mem_cons.mpr ⟨trivial, List.forall_mem_cons.mpr ⟨trivial, List.forall_mem_cons.mpr ⟨trivial, List.forall_mem_cons.mpr ⟨trivial, List.forall_mem_cons.mpr ⟨trivial, List.forall_mem_cons.mpr ⟨⟨_, rfl, (by decide), Or.inl mw_31⟩, List.forall_mem_cons.mpr ⟨trivial, List.forall_mem_cons.mpr ⟨trivial, List.forall_mem_cons.mpr ⟨trivial, List.forall_mem_cons.mpr ⟨trivial, List.forall_mem_cons.mpr ⟨⟨_, rfl, (by decide), Or.inl ⟨rfl, mw_31⟩⟩, List.forall_mem_cons.mpr ⟨trivial, List.forall_mem_cons.mpr ⟨trivial, List.forall_mem_cons.mpr ⟨⟨_, rfl, (by decide), Or.inl mw_28⟩, List.forall_mem_cons.mpr ⟨trivial, List.forall_mem_cons.mpr ⟨trivial, List.forall_mem_cons.mpr ⟨⟨_, rfl, (by decide), Or.inl ⟨rfl, mw_28⟩⟩, List.forall_mem_cons.mpr ⟨trivial, fun _ h => nomatch h⟩⟩⟩⟩⟩⟩⟩⟩⟩⟩⟩⟩⟩⟩⟩⟩⟩⟩⟩⟩
theorem m_dec_5 : (mt_5.all fun r => decide (decode (m_b 5) r.1 = .ok (r.2.1, m_len r.2.1)) && m_jumpb r.1 r.2.1 r.2.2.1) = true := by decide +kernel
set_option maxRecDepth 20000 in
theorem m_wrd_5 : ∀ r ∈ mt_5, m_okw 5 r.1 r.2.1 r.2.2.1 r.2.2.2 := List.forall_mem_cons.mpr ⟨trivial, List.forall_mem_cons.mpr ⟨trivial, List.forall_mem_cons.mpr ⟨trivial, List.forall_mem_cons.mpr ⟨trivial, List.forall_mem_cons.mpr ⟨trivial, List.forall_mem_cons.mpr ⟨trivial, List.forall_mem_cons.mpr ⟨⟨_, rfl, (by decide), Or.inl mw_33⟩, List.forall_mem_cons.mpr ⟨trivial, List.forall_mem_cons.mpr ⟨trivial, List.forall_mem_cons.mpr ⟨⟨fun h => absurd h (by decide), fun _ => ⟨m_fact_1, (Or.inl mw_138), mw_139⟩⟩, List.forall_mem_cons.mpr ⟨trivial, List.forall_mem_cons.mpr ⟨trivial, List.forall_mem_cons.mpr ⟨⟨fun h => absurd h (by decide), fun _ => ⟨m_fact_44, (Or.inr mw_128), mw_129⟩⟩, List.forall_mem_cons.mpr ⟨trivial, List.forall_mem_cons.mpr ⟨trivial, List.forall_mem_cons.mpr ⟨trivial, List.forall_mem_cons.mpr ⟨trivial, List.forall_mem_cons.mpr ⟨trivial, List.forall_mem_cons.mpr ⟨trivial, List.forall_mem_cons.mpr ⟨trivial, fun _ h => nomatch h⟩⟩⟩⟩⟩⟩⟩⟩⟩⟩⟩⟩⟩⟩⟩⟩⟩⟩⟩⟩
theorem m_dec_6 : (mt_6.all fun r => decide (decode (m_b 6) r.1 = .ok (r.2.1, m_len r.2.1)) && m_jumpb r.1 r.2.1 r.2.2.1) = true := by decide +kernel
set_option maxRecDepth 20000 in
theorem m_wrd_6 : ∀ r ∈ mt_6, m_okw 6 r.1 r.2.1 r.2.2.1 r.2.2.2 := List.forall_mem_cons.mpr ⟨trivial, List.forall_mem_cons.mpr ⟨trivial, List.forall_mem_cons.mpr ⟨trivial, List.forall_mem_cons.mpr ⟨trivial, List.forall_mem_cons.mpr ⟨trivial, List.forall_mem_cons.mpr ⟨trivial, List.forall_mem_cons.mpr ⟨⟨_, rfl, (by decide), Or.inl mw_33⟩, List.forall_mem_cons.mpr ⟨trivial, List.forall_mem_cons.mpr ⟨trivial, List.forall_mem_cons.mpr ⟨⟨fun h => absurd h (by decide), fun _ => ⟨m_fact_1, (Or.inl mw_138), mw_139⟩⟩, List.forall_mem_cons.mpr ⟨trivial, List.forall_mem_cons.mpr ⟨trivial, List.forall_mem_cons.mpr ⟨trivial, List.forall_mem_cons.mpr ⟨trivial, List.forall_mem_cons.mpr ⟨trivial, List.forall_mem_cons.mpr ⟨trivial, List.forall_mem_cons.mpr ⟨trivial, List.forall_mem_cons.mpr ⟨trivial, List.forall_mem_cons.mpr ⟨⟨_, rfl, (by decide), Or.inl mw_33⟩, List.forall_mem_cons.mpr ⟨trivial, List.forall_mem_cons.mpr ⟨trivial, List.forall_mem_cons.mpr ⟨⟨fun h => absurd h (by decide), fun _ => ⟨m_fact_1, (Or.inl mw_138), mw_139⟩⟩, List.forall_mem_cons.mpr ⟨trivial, List.forall_mem_cons.mpr ⟨trivial, List.forall_mem_cons.mpr ⟨trivial, List.forall_mem_cons.mpr ⟨trivial, List.forall_mem_cons.mpr ⟨trivial, List.forall_mem_cons.mpr ⟨trivial, List.forall_mem_cons.mpr ⟨trivial, List.forall_mem_cons.mpr ⟨trivial, List.forall_mem_cons.mpr ⟨trivial, List.forall_mem_cons.mpr ⟨trivial, List.forall_mem_cons.mpr ⟨trivial, List.forall_mem_cons.mpr ⟨⟨_, rfl, (by decide), Or.inl mw_30⟩, List.forall_mem_cons.mpr ⟨trivial, List.forall_mem_cons.mpr ⟨trivial, List.forall_mem_cons.mpr ⟨⟨_, rfl, (by decide), Or.inl ⟨rfl, mw_30⟩⟩, List.forall_mem_cons.mpr ⟨trivial, fun _ h => nomatch h⟩⟩⟩⟩⟩⟩⟩⟩⟩⟩⟩⟩⟩⟩⟩⟩⟩⟩⟩⟩⟩⟩⟩⟩⟩⟩⟩⟩⟩⟩⟩⟩⟩⟩⟩⟩⟩⟩
theorem m_dec_7 : (mt_7.all fun r => decide (decode (m_b 7) r.1 = .ok (r.2.1, m_len r.2.1)) && m_jumpb r.1 r.2.1 r.2.2.1) = true := by decide +kernel
set_option maxRecDepth 20000 in
theorem m_wrd_7 : ∀ r ∈ mt_7, m_okw 7 r.1 r.2.1 r.2.2.1 r.2.2.2 := List.forall_mem_cons.mpr ⟨trivial, List.forall_mem_cons.mpr ⟨trivial, List.forall_mem_cons.mpr ⟨trivial, List.forall_mem_cons.mpr ⟨trivial, List.forall_mem_cons.mpr ⟨trivial, List.forall_mem_cons.mpr ⟨trivial, List.forall_mem_cons.mpr ⟨⟨_, rfl, (by decide), Or.inl mw_33⟩, List.forall_mem_cons.mpr ⟨trivial, List.forall_mem_cons.mpr ⟨trivial, List.forall_mem_cons.mpr ⟨⟨fun h => absurd h (by decide), fun _ => ⟨m_fact_1, (Or.inl mw_138), mw_139⟩⟩, List.forall_mem_cons.mpr ⟨trivial, List.forall_mem_cons.mpr ⟨trivial, List.forall_mem_cons.mpr ⟨trivial, List.forall_mem_cons.mpr ⟨trivial, List.forall_mem_cons.mpr ⟨trivial, List.forall_mem_cons.mpr ⟨trivial, List.forall_mem_cons.mpr ⟨trivial, List.forall_mem_cons.mpr ⟨trivial, List.forall_mem_cons.mpr ⟨trivial, List.forall_mem_cons.mpr ⟨trivial, List.forall_mem_cons.mpr ⟨⟨_, rfl, (by decide), Or.inl mw_33⟩, List.forall_mem_cons.mpr ⟨trivial, List.forall_mem_cons.mpr ⟨trivial, List.forall_mem_cons.mpr ⟨⟨fun h => absurd h (by decide), fun _ => ⟨m_fact_1, (Or.inl mw_138), mw_139⟩⟩, List.forall_mem_cons.mpr ⟨trivial, List.forall_mem_cons.mpr ⟨trivial, List.forall_mem_cons.mpr ⟨trivial, List.forall_mem_cons.mpr ⟨trivial, List.forall_mem_cons.mpr ⟨trivial, List.forall_mem_cons.mpr ⟨trivial, List.forall_mem_cons.mpr ⟨trivial, List.forall_mem_cons.mpr ⟨trivial, List.forall_mem_cons.mpr ⟨trivial, List.forall_mem_cons.mpr ⟨trivial, List.forall_mem_cons.mpr ⟨trivial, List.forall_mem_cons.mpr ⟨trivial, fun _ h => nomatch h⟩⟩⟩⟩⟩⟩⟩⟩⟩⟩⟩⟩⟩⟩⟩⟩⟩⟩⟩⟩⟩⟩⟩⟩⟩⟩⟩⟩⟩⟩⟩⟩⟩⟩⟩⟩
theorem m_dec_8 : (mt_8.all fun r => decide (decode (m_b 8) r.1 = .ok (r.2.1, m_len r.2.1)) && m_jumpb r.1 r.2.1 r.2.2.1) = true := by decide +kernel
set_option maxRecDepth 20000 in
theorem m_wrd_8 : ∀ r ∈ mt_8, m_okw 8 r.1 r.2.1 r.2.2.1 r.2.2.2 := List.forall_mem_cons.mpr ⟨trivial, List.forall_mem_cons.mpr ⟨⟨_, rfl, (by decide), Or.inl mw_34⟩, List.forall_mem_cons.mpr ⟨trivial, List.forall_mem_cons.mpr ⟨trivial, List.forall_mem_cons.mpr ⟨⟨fun h => absurd h (by decide), fun _ => ⟨m_fact_1, (Or.inl mw_138), mw_139⟩⟩, List.forall_mem_cons.mpr ⟨trivial, List.forall_mem_cons.mpr ⟨trivial, List.forall_mem_cons.mpr ⟨⟨fun h => absurd h (by decide), fun _ => ⟨m_fact_44, (Or.inr mw_128), mw_129⟩⟩, List.forall_mem_cons.mpr ⟨trivial, List.forall_mem_cons.mpr ⟨trivial, List.forall_mem_cons.mpr ⟨trivial, List.forall_mem_cons.mpr ⟨trivial, List.forall_mem_cons.mpr ⟨trivial, fun _ h => nomatch h⟩⟩⟩⟩⟩⟩⟩⟩⟩⟩⟩⟩⟩
theorem m_dec_9 : (mt_9.all fun r => decide (decode (m_b 9) r.1 = .ok (r.2.1, m_len r.2.1)) && m_jumpb r.1 r.2.1 r.2.2.1) = true := by decide +kernel
set_option maxRecDepth 20000 in
theorem m_wrd_9 : ∀ r ∈ mt_9, m_okw 9 r.1 r.2.1 r.2.2.1 r.2.2.2 := List.forall_mem_cons.mpr ⟨trivial, List.forall_mem_cons.mpr ⟨⟨_, rfl, (by decide), Or.inl mw_35⟩, List.forall_mem_cons.mpr ⟨trivial, List.forall_mem_cons.mpr ⟨trivial, List.forall_mem_cons.mpr ⟨⟨fun h => absurd h (by decide), fun _ => ⟨m_fact_1, (Or.inl mw_138), mw_139⟩⟩, List.forall_mem_cons.mpr ⟨trivial, List.forall_mem_cons.mpr ⟨trivial, fun _ h => nomatch h⟩⟩⟩⟩⟩⟩⟩
theorem m_dec_10 : (mt_10.all fun r => decide (decode (m_b 10) r.1 = .ok (r.2.1, m_len r.2.1)) && m_jumpb r.1 r.2.1 r.2.2.1) = true := by decide +kernel
set_option maxRecDepth 20000 in
theorem m_wrd_10 : ∀ r ∈ mt_10, m_okw 10 r.1 r.2.1 r.2.2.1 r.2.2.2 := List.forall_mem_cons.mpr ⟨trivial, List.forall_mem_cons.mpr ⟨⟨_, rfl, (by decide), Or.inl mw_32⟩, List.forall_mem_cons.mpr ⟨trivial, List.forall_mem_cons.mpr ⟨trivial, List.forall_mem_cons.mpr ⟨trivial, List.forall_mem_cons.mpr ⟨⟨_, rfl, (by decide), Or.inl mw_35⟩, List.forall_mem_cons.mpr ⟨trivial, List.forall_mem_cons.mpr ⟨trivial, List.forall_mem_cons.mpr ⟨⟨fun h => absurd h (by decide), fun _ => ⟨m_fact_1, (Or.inl mw_138), mw_139⟩⟩, List.forall_mem_cons.mpr ⟨trivial, List.forall_mem_cons.mpr ⟨trivial, List.forall_mem_cons.mpr ⟨trivial, fun _ h => nomatch h⟩⟩⟩⟩⟩⟩⟩⟩⟩⟩⟩⟩
theorem m_dec_11 : (mt_11.all fun r => decide (decode (m_b 11) r.1 = .ok (r.2.1, m_len r.2.1)) && m_jumpb r.1 r.2.1 r.2.2.1) = true := by decide +kernel
set_option maxRecDepth 20000 in
theorem m_wrd_11 : ∀ r ∈ mt_11, m_okw 11 r.1 r.2.1 r.2.2.1 r.2.2.2 := List.forall_mem_cons.mpr ⟨trivial, List.forall_mem_cons.mpr ⟨trivial, List.forall_mem_cons.mpr ⟨⟨fun h => absurd h (by decide), fun _ => ⟨m_fact_1, (Or.inl mw_138), mw_139⟩⟩, List.forall_mem_cons.mpr ⟨trivial, List.forall_mem_cons.mpr ⟨trivial, List.forall_mem_cons.mpr ⟨⟨_, rfl, (by decide), Or.inl mw_33⟩, List.forall_mem_cons.mpr ⟨trivial, List.forall_mem_cons.mpr ⟨trivial, List.forall_mem_cons.mpr ⟨trivial, List.forall_mem_cons.mpr ⟨⟨_, rfl, (by decide), Or.inl mw_34⟩, List.forall_mem_cons.mpr ⟨trivial, List.forall_mem_cons.mpr ⟨trivial, List.forall_mem_cons.mpr ⟨trivial, List.forall_mem_cons.mpr ⟨trivial, List.forall_mem_cons.mpr ⟨trivial, List.forall_mem_cons.mpr ⟨trivial, List.forall_mem_cons.mpr ⟨trivial, List.forall_mem_cons.mpr ⟨⟨_, rfl, (by decide), Or.inl mw_35⟩, List.forall_mem_cons.mpr ⟨trivial, List.forall_mem_cons.mpr ⟨trivial, List.forall_mem_cons.mpr ⟨trivial, List.forall_mem_cons.mpr ⟨⟨_, rfl, (by decide), Or.inl mw_32⟩, List.forall_mem_cons.mpr ⟨trivial, List.forall_mem_cons.mpr ⟨trivial, List.forall_mem_cons.mpr ⟨trivial, List.forall_mem_cons.mpr ⟨trivial, List.forall_mem_cons.mpr ⟨trivial, List.forall_mem_cons.mpr ⟨trivial, List.forall_mem_cons.mpr ⟨trivial, List.forall_mem_cons.mpr ⟨trivial, List.forall_mem_cons.mpr ⟨trivial, List.forall_mem_cons.mpr ⟨trivial, List.forall_mem_cons.mpr ⟨trivial, fun _ h => nomatch h⟩⟩⟩⟩⟩⟩⟩⟩⟩⟩⟩⟩⟩⟩⟩⟩⟩⟩⟩⟩⟩⟩⟩⟩⟩⟩⟩⟩⟩⟩⟩⟩⟩
theorem m_dec_12 : (mt_12.all fun r => decide (decode (m_b 12) r.1 = .ok (r.2.1, m_len r.2.1)) && m_jumpb r.1 r.2.1 r.2.2.1) = true := by decide +kernel
set_option maxRecDepth 20000 in
theorem m_wrd_12 : ∀ r ∈ mt_12, m_okw 12 r.1 r.2.1 r.2.2.1 r.2.2.2 := List.forall_mem_cons.mpr ⟨trivial, List.forall_mem_cons.mpr ⟨trivial, List.forall_mem_cons.mpr ⟨trivial, List.forall_mem_cons.mpr ⟨trivial, List.forall_mem_cons.mpr ⟨⟨_, rfl, (by decide), Or.inl mw_35⟩, List.forall_mem_cons.mpr ⟨trivial, List.forall_mem_cons.mpr ⟨trivial, List.forall_mem_cons.mpr ⟨⟨fun h => absurd h (by decide), fun _ => ⟨m_fact_1, (Or.inl mw_138), mw_139⟩⟩, List.forall_mem_cons.mpr ⟨trivial, List.forall_mem_cons.mpr ⟨trivial, List.forall_mem_cons.mpr ⟨trivial, List.forall_mem_cons.mpr ⟨trivial, List.forall_mem_cons.mpr ⟨trivial, List.forall_mem_cons.mpr ⟨trivial, List.forall_mem_cons.mpr ⟨trivial, List.forall_mem_cons.mpr ⟨⟨_, rfl, (by decide), Or.inl mw_34⟩, List.forall_mem_cons.mpr ⟨trivial, List.forall_mem_cons.mpr ⟨trivial, List.forall_mem_cons.mpr ⟨⟨fun h => absurd h (by decide), fun _ => ⟨m_fact_1, (Or.inl mw_138), mw_139⟩⟩, List.forall_mem_cons.mpr ⟨trivial, List.forall_mem_cons.mpr ⟨trivial, List.forall_mem_cons.mpr ⟨trivial, List.forall_mem_cons.mpr ⟨trivial, List.forall_mem_cons.mpr ⟨trivial, List.forall_mem_cons.mpr ⟨trivial, List.forall_mem_cons.mpr ⟨trivial, List.forall_mem_cons.mpr ⟨trivial, fun _ h => nomatch h⟩⟩⟩⟩⟩⟩⟩⟩⟩⟩⟩⟩⟩⟩⟩⟩⟩⟩⟩⟩⟩⟩⟩⟩⟩⟩⟩
theorem m_dec_13 : (mt_13.all fun r => decide (decode (m_b 13) r.1 = .ok (r.2.1, m_len r.2.1)) && m_jumpb r.1 r.2.1 r.2.2.1) = true := by decide +kernel
set_option maxRecDepth 20000 in
theorem m_wrd_13 : ∀ r ∈ mt_13, m_okw 13 r.1 r.2.1 r.2.2.1 r.2.2.2 := List.forall_mem_cons.mpr ⟨trivial, List.forall_mem_cons.mpr ⟨trivial, List.forall_mem_cons.mpr ⟨trivial, List.forall_mem_cons.mpr ⟨trivial, List.forall_mem_cons.mpr ⟨⟨_, rfl, (by decide), Or.inl mw_35⟩, List.forall_mem_cons.mpr ⟨trivial, List.forall_mem_cons.mpr ⟨trivial, List.forall_mem_cons.mpr ⟨⟨fun h => absurd h (by decide), fun _ => ⟨m_fact_1, (Or.inl mw_138), mw_139⟩⟩, List.forall_mem_cons.mpr ⟨trivial, List.forall_mem_cons.mpr ⟨trivial, List.forall_mem_cons.mpr ⟨trivial, List.forall_mem_cons.mpr ⟨trivial, List.forall_mem_cons.mpr ⟨trivial, List.forall_mem_cons.mpr ⟨trivial, List.forall_mem_cons.mpr ⟨trivial, List.forall_mem_cons.mpr ⟨⟨_, rfl, (by decide), Or.inl mw_34⟩, List.forall_mem_cons.mpr ⟨trivial, List.forall_mem_cons.mpr ⟨trivial, List.forall_mem_cons.mpr ⟨⟨fun h => absurd h (by decide), fun _ => ⟨m_fact_1, (Or.inl mw_138), mw_139⟩⟩, List.forall_mem_cons.mpr ⟨trivial, List.forall_mem_cons.mpr ⟨trivial, List.forall_mem_cons.mpr ⟨trivial, List.forall_mem_cons.mpr ⟨trivial, List.forall_mem_cons.mpr ⟨trivial, List.forall_mem_cons.mpr ⟨trivial, List.forall_mem_cons.mpr ⟨trivial, List.forall_mem_cons.mpr ⟨trivial, List.forall_mem_cons.mpr ⟨trivial, List.forall_mem_cons.mpr ⟨trivial, fun _ h => nomatch h⟩⟩⟩⟩⟩⟩⟩⟩⟩⟩⟩⟩⟩⟩⟩⟩⟩⟩⟩⟩⟩⟩⟩⟩⟩⟩⟩⟩⟩
theorem m_dec_14 : (mt_14.all fun r => decide (decode (m_b 14) r.1 = .ok (r.2.1, m_len r.2.1)) && m_jumpb r.1 r.2.1 r.2.2.1) = true := by decide +kernel
set_option maxRecDepth 20000 in
theorem m_wrd_14 : ∀ r ∈ mt_14, m_okw 14 r.1 r.2.1 r.2.2.1 r.2.2.2 := List.forall_mem_cons.mpr ⟨trivial, List.forall_mem_cons.mpr ⟨⟨fun _ => ⟨mw_327, mw_oi, mw_oc⟩, fun h => absurd rfl h⟩, List.forall_mem_cons.mpr ⟨trivial, List.forall_mem_cons.mpr ⟨trivial, List.forall_mem_cons.mpr ⟨mw_51, List.forall_mem_cons.mpr ⟨⟨_, rfl, (by decide), Or.inr (Or.inr ⟨rfl, rfl, rfl, mw_332⟩)⟩, List.forall_mem_cons.mpr ⟨trivial, List.forall_mem_cons.mpr ⟨trivial, List.forall_mem_cons.mpr ⟨⟨_, rfl, (by decide), Or.inl ⟨rfl, mw_334⟩⟩, List.forall_mem_cons.mpr ⟨trivial, List.forall_mem_cons.mpr ⟨trivial, List.forall_mem_cons.mpr ⟨⟨_, rfl, (by decide), Or.inl ⟨rfl, mw_336⟩⟩, List.forall_mem_cons.mpr ⟨trivial, List.forall_mem_cons.mpr ⟨trivial, List.forall_mem_cons.mpr ⟨⟨_, rfl, (by decide), Or.inr (Or.inr ⟨rfl, rfl, rfl, mw_328⟩)⟩, List.forall_mem_cons.mpr ⟨trivial, List.forall_mem_cons.mpr ⟨trivial, List.forall_mem_cons.mpr ⟨⟨_, rfl, (by decide), Or.inr (Or.inr ⟨rfl, rfl, rfl, mw_330⟩)⟩, List.forall_mem_cons.mpr ⟨trivial, fun _ h => nomatch h⟩⟩⟩⟩⟩⟩⟩⟩⟩⟩⟩⟩⟩⟩⟩⟩⟩⟩⟩
theorem m_dec_15 : (mt_15.all fun r => decide (decode (m_b 15) r.1 = .ok (r.2.1, m_len r.2.1)) && m_jumpb r.1 r.2.1 r.2.2.1) = true := by decide +kernel
set_option maxRecDepth 20000 in
theorem m_wrd_15 : ∀ r ∈ mt_15, m_okw 15 r.1 r.2.1 r.2.2.1 r.2.2.2 := List.forall_mem_cons.mpr ⟨trivial, List.forall_mem_cons.mpr ⟨⟨_, rfl, (by decide), Or.inl mw_336⟩, List.forall_mem_cons.mpr ⟨trivial, List.forall_mem_cons.mpr ⟨trivial, List.forall_mem_cons.mpr ⟨⟨_, rfl, (by decide), Or.inl mw_336⟩, List.forall_mem_cons.mpr ⟨trivial, List.forall_mem_cons.mpr ⟨trivial, List.forall_mem_cons.mpr ⟨trivial, List.forall_mem_cons.mpr ⟨⟨_, rfl, (by decide), Or.inl mw_330⟩, List.forall_mem_cons.mpr ⟨trivial, List.forall_mem_cons.mpr ⟨trivial, List.forall_mem_cons.mpr ⟨trivial, List.forall_mem_cons.mpr ⟨trivial, List.forall_mem_cons.mpr ⟨trivial, List.forall_mem_cons.mpr ⟨⟨_, rfl, (by decide), Or.inl mw_334⟩, List.forall_mem_cons.mpr ⟨trivial, List.forall_mem_cons.mpr ⟨trivial, List.forall_mem_cons.mpr ⟨trivial, List.forall_mem_cons.mpr ⟨trivial, List.forall_mem_cons.mpr ⟨trivial, fun _ h => nomatch h⟩⟩⟩⟩⟩⟩⟩⟩⟩⟩⟩⟩⟩⟩⟩⟩⟩⟩⟩⟩
theorem m_dec_16 : (mt_16.all fun r => decide (decode (m_b 16) r.1 = .ok (r.2.1, m_len r.2.1)) && m_jumpb r.1 r.2.1 r.2.2.1) = true := by decide +kernel
set_option maxRecDepth 20000 in
theorem m_wrd_16 : ∀ r ∈ mt_16, m_okw 16 r.1 r.2.1 r.2.2.1 r.2.2.2 := List.forall_mem_cons.mpr ⟨trivial, List.forall_mem_cons.mpr ⟨trivial, List.forall_mem_cons.mpr ⟨⟨m_fact_15, (Or.inl mw_392), mw_97, mw_98⟩, List.forall_mem_cons.mpr ⟨trivial, List.forall_mem_cons.mpr ⟨trivial, List.forall_mem_cons.mpr ⟨trivial, List.forall_mem_cons.mpr ⟨trivial, List.forall_mem_cons.mpr ⟨trivial, List.forall_mem_cons.mpr ⟨trivial, List.forall_mem_cons.mpr ⟨trivial, List.forall_mem_cons.mpr ⟨trivial, List.forall_mem_cons.mpr ⟨trivial, List.forall_mem_cons.mpr ⟨trivial, List.forall_mem_cons.mpr ⟨trivial, fun _ h => nomatch h⟩⟩⟩⟩⟩⟩⟩⟩⟩⟩⟩⟩⟩⟩
theorem m_dec_17 : (mt_17.all fun r => decide (decode (m_b 17) r.1 = .ok (r.2.1, m_len r.2.1)) && m_jumpb r.1 r.2.1 r.2.2.1) = true := by decide +kernel
set_option maxRecDepth 20000 in
theorem m_wrd_17 : ∀ r ∈ mt_17, m_okw 17 r.1 r.2.1 r.2.2.1 r.2.2.2 := List.forall_mem_cons.mpr ⟨trivial, List.forall_mem_cons.mpr ⟨trivial, List.forall_mem_cons.mpr ⟨⟨_, rfl, (by decide), Or.inl mw_330⟩, List.forall_mem_cons.mpr ⟨trivial, List.forall_mem_cons.mpr ⟨trivial, List.forall_mem_cons.mpr ⟨trivial, List.forall_mem_cons.mpr ⟨⟨_, rfl, (by decide), Or.inl mw_334⟩, List.forall_mem_cons.mpr ⟨trivial, List.forall_mem_cons.mpr ⟨trivial, List.forall_mem_cons.mpr ⟨⟨_, rfl, (by decide), Or.inl mw_332⟩, List.forall_mem_cons.mpr ⟨trivial, List.forall_mem_cons.mpr ⟨trivial, List.forall_mem_cons.mpr ⟨trivial, List.forall_mem_cons.mpr ⟨trivial, List.forall_mem_cons.mpr ⟨trivial, fun _ h => nomatch h⟩⟩⟩⟩⟩⟩⟩⟩⟩⟩⟩⟩⟩⟩⟩
theorem m_dec_18 : (mt_18.all fun r => decide (decode (m_b 18) r.1 = .ok (r.2.1, m_len r.2.1)) && m_jumpb r.1 r.2.1 r.2.2.1) = true := by decide +kernel
set_option maxRecDepth 20000 in
theorem m_wrd_18 : ∀ r ∈ mt_18, m_okw 18 r.1 r.2.1 r.2.2.1 r.2.2.2 := List.forall_mem_cons.mpr ⟨trivial, List.forall_mem_cons.mpr ⟨⟨_, rfl, (by decide), Or.inl mw_330⟩, List.forall_mem_cons.mpr ⟨trivial, List.forall_mem_cons.mpr ⟨⟨fun _ => ⟨mw_424, mw_ms, mw_mi, mw_mc⟩, fun h => absurd rfl h⟩, List.forall_mem_cons.mpr ⟨trivial, List.forall_mem_cons.mpr ⟨trivial, List.forall_mem_cons.mpr ⟨trivial, List.forall_mem_cons.mpr ⟨⟨_, rfl, (by decide), Or.inl mw_334⟩, List.forall_mem_cons.mpr ⟨trivial, List.forall_mem_cons.mpr ⟨trivial, List.forall_mem_cons.mpr ⟨⟨_, rfl, (by decide), Or.inl mw_332⟩, List.forall_mem_cons.mpr ⟨trivial, List.forall_mem_cons.mpr ⟨trivial, List.forall_mem_cons.mpr ⟨trivial, List.forall_mem_cons.mpr ⟨trivial, List.forall_mem_cons.mpr ⟨trivial, List.forall_mem_cons.mpr ⟨⟨_, rfl, (by decide), Or.inl mw_332⟩, List.forall_mem_cons.mpr ⟨trivial, List.forall_mem_cons.mpr ⟨trivial, List.forall_mem_cons.mpr ⟨trivial, List.forall_mem_cons.mpr ⟨trivial, List.forall_mem_cons.mpr ⟨trivial, List.forall_mem_cons.mpr ⟨trivial, List.forall_mem_cons.mpr ⟨trivial, List.forall_mem_cons.mpr ⟨trivial, List.forall_mem_cons.mpr ⟨trivial, List.forall_mem_cons.mpr ⟨trivial, List.forall_mem_cons.mpr ⟨trivial, List.forall_mem_cons.mpr ⟨⟨_, rfl, (by decide), Or.inl mw_332⟩, List.forall_mem_cons.mpr ⟨trivial, List.forall_mem_cons.mpr ⟨trivial, List.forall_mem_cons.mpr ⟨trivial, List.forall_mem_cons.mpr ⟨trivial, List.forall_mem_cons.mpr ⟨trivial, List.forall_mem_cons.mpr ⟨⟨_, rfl, (by decide), Or.inl mw_332⟩, List.forall_mem_cons.mpr ⟨trivial, List.forall_mem_cons.mpr ⟨trivial, List.forall_mem_cons.mpr ⟨trivial, List.forall_mem_cons.mpr ⟨trivial, List.forall_mem_cons.mpr ⟨trivial, List.forall_mem_cons.mpr ⟨trivial, List.forall_mem_cons.mpr ⟨trivial, List.forall_mem_cons.mpr ⟨trivial, List.forall_mem_cons.mpr ⟨trivial, List.forall_mem_cons.mpr ⟨trivial, List.forall_mem_cons.mpr ⟨trivial, List.forall_mem_cons.mpr ⟨trivial, List.forall_mem_cons.mpr ⟨trivial, List.forall_mem_cons.mpr ⟨trivial, List.forall_mem_cons.mpr ⟨trivial, List.forall_mem_cons.mpr ⟨trivial, List.forall_mem_cons.mpr ⟨trivial, List.forall_mem_cons.mpr ⟨trivial, List.forall_mem_cons.mpr ⟨trivial, List.forall_mem_cons.mpr ⟨trivial, fun _ h => nomatch h⟩⟩⟩⟩⟩⟩⟩⟩⟩⟩⟩⟩⟩⟩⟩⟩⟩⟩⟩⟩⟩⟩⟩⟩⟩⟩⟩⟩⟩⟩⟩⟩⟩⟩⟩⟩⟩⟩⟩⟩⟩⟩⟩⟩⟩⟩⟩⟩⟩⟩⟩⟩⟩⟩⟩
theorem m_dec_19 : (mt_19.all fun r => decide (decode (m_b 19) r.1 = .ok (r.2.1, m_len r.2.1)) && m_jumpb r.1 r.2.1 r.2.2.1) = true := by decide +kernel
set_option maxRecDepth 20000 in
theorem m_wrd_19 : ∀ r ∈ mt_19, m_okw 19 r.1 r.2.1 r.2.2.1 r.2.2.2 := List.forall_mem_cons.mpr ⟨trivial, List.forall_mem_cons.mpr ⟨⟨fun _ => ⟨mw_57, mw_oi, mw_oc⟩, fun h => absurd rfl h⟩, List.forall_mem_cons.mpr ⟨trivial, List.forall_mem_cons.mpr ⟨trivial, List.forall_mem_cons.mpr ⟨mw_51, List.forall_mem_cons.mpr ⟨⟨_, rfl, (by decide), Or.inr (Or.inr ⟨rfl, rfl, rfl, mw_58⟩)⟩, List.forall_mem_cons.mpr ⟨trivial, List.forall_mem_cons.mpr ⟨trivial, List.forall_mem_cons.mpr ⟨mw_51, List.forall_mem_cons.mpr ⟨⟨_, rfl, (by decide), Or.inr (Or.inr ⟨rfl, rfl, rfl, mw_60⟩)⟩, List.forall_mem_cons.mpr ⟨trivial, fun _ h => nomatch h⟩⟩⟩⟩⟩⟩⟩⟩⟩⟩⟩
theorem m_dec_20 : (mt_20.all fun r => decide (decode (m_b 20) r.1 = .ok (r.2.1, m_len r.2.1)) && m_jumpb r.1 r.2.1 r.2.2.1) = true := by decide +kernel
set_option maxRecDepth 20000 in
theorem m_wrd_20 : ∀ r ∈ mt_20, m_okw 20 r.1 r.2.1 r.2.2.1 r.2.2.2 := List.forall_mem_cons.mpr ⟨trivial, List.forall_mem_cons.mpr ⟨trivial, List.forall_mem_cons.mpr ⟨trivial, List.forall_mem_cons.mpr ⟨trivial, List.forall_mem_cons.mpr ⟨⟨fun h => absurd h (by decide), fun _ => ⟨m_fact_21, (Or.inl mw_301), mw_302⟩⟩, List.forall_mem_cons.mpr ⟨trivial, List.forall_mem_cons.mpr ⟨trivial, List.forall_mem_cons.mpr ⟨trivial, List.forall_mem_cons.mpr ⟨trivial, List.forall_mem_cons.mpr ⟨trivial, List.forall_mem_cons.mpr ⟨trivial, List.forall_mem_cons.mpr ⟨trivial, List.forall_mem_cons.mpr ⟨trivial, List.forall_mem_cons.mpr ⟨trivial, List.forall_mem_cons.mpr ⟨⟨m_fact_23, (Or.inl mw_312), mw_314, mwp_4⟩, List.forall_mem_cons.mpr ⟨trivial, List.forall_mem_cons.mpr ⟨trivial, List.forall_mem_cons.mpr ⟨trivial, List.forall_mem_cons.mpr ⟨trivial, List.forall_mem_cons.mpr ⟨trivial, List.forall_mem_cons.mpr ⟨⟨m_fact_24, (Or.inl mw_316), mw_318, mwp_5⟩, List.forall_mem_cons.mpr ⟨trivial, List.forall_mem_cons.mpr ⟨trivial, fun _ h => nomatch h⟩⟩⟩⟩⟩⟩⟩⟩⟩⟩⟩⟩⟩⟩⟩⟩⟩⟩⟩⟩⟩⟩⟩
theorem m_dec_21 : (mt_21.all fun r => decide (decode (m_b 21) r.1 = .ok (r.2.1, m_len r.2.1)) && m_jumpb r.1 r.2.1 r.2.2.1) = true := by decide +kernel
set_option maxRecDepth 20000 in
theorem m_wrd_21 : ∀ r ∈ mt_21, m_okw 21 r.1 r.2.1 r.2.2.1 r.2.2.2 := List.forall_mem_cons.mpr ⟨trivial, List.forall_mem_cons.mpr ⟨trivial, List.forall_mem_cons.mpr ⟨trivial, List.forall_mem_cons.mpr ⟨trivial, List.forall_mem_cons.mpr ⟨trivial, List.forall_mem_cons.mpr ⟨trivial, List.forall_mem_cons.mpr ⟨trivial, List.forall_mem_cons.mpr ⟨trivial, List.forall_mem_cons.mpr ⟨trivial, List.forall_mem_cons.mpr ⟨trivial, List.forall_mem_cons.mpr ⟨trivial, List.forall_mem_cons.mpr ⟨trivial, List.forall_mem_cons.mpr ⟨⟨fun h => absurd h (by decide), fun _ => ⟨m_fact_22, (Or.inl mw_304), mw_305⟩⟩, List.forall_mem_cons.mpr ⟨trivial, List.forall_mem_cons.mpr ⟨trivial, List.forall_mem_cons.mpr ⟨trivial, List.forall_mem_cons.mpr ⟨⟨fun h => absurd h (by decide), fun _ => ⟨m_fact_44, (Or.inr mw_307), mw_129⟩⟩, List.forall_mem_cons.mpr ⟨trivial, List.forall_mem_cons.mpr ⟨trivial, List.forall_mem_cons.mpr ⟨trivial, List.forall_mem_cons.mpr ⟨trivial, List.forall_mem_cons.mpr ⟨trivial, List.forall_mem_cons.mpr ⟨trivial, List.forall_mem_cons.mpr ⟨trivial, List.forall_mem_cons.mpr ⟨trivial, List.forall_mem_cons.mpr ⟨trivial, fun _ h => nomatch h⟩⟩⟩⟩⟩⟩⟩⟩⟩⟩⟩⟩⟩⟩⟩⟩⟩⟩⟩⟩⟩⟩⟩⟩⟩⟩
theorem m_dec_22 : (mt_22.all fun r => decide (decode (m_b 22) r.1 = .ok (r.2.1, m_len r.2.1)) && m_jumpb r.1 r.2.1 r.2.2.1) = true := by decide +kernel
set_option maxRecDepth 20000 in
theorem m_wrd_22 : ∀ r ∈ mt_22, m_okw 22 r.1 r.2.1 r.2.2.1 r.2.2.2 := List.forall_mem_cons.mpr ⟨trivial, List.forall_mem_cons.mpr ⟨trivial, List.forall_mem_cons.mpr ⟨trivial, List.forall_mem_cons.mpr ⟨trivial, List.forall_mem_cons.mpr ⟨trivial, List.forall_mem_cons.mpr ⟨trivial, List.forall_mem_cons.mpr ⟨trivial, List.forall_mem_cons.mpr ⟨trivial, List.forall_mem_cons.mpr ⟨trivial, List.forall_mem_cons.mpr ⟨⟨fun h => absurd h (by decide), fun _ => ⟨m_fact_44, (Or.inr mw_307), mw_129⟩⟩, List.forall_mem_cons.mpr ⟨trivial, List.forall_mem_cons.mpr ⟨trivial, List.forall_mem_cons.mpr ⟨trivial, List.forall_mem_cons.mpr ⟨trivial, List.forall_mem_cons.mpr ⟨trivial, List.forall_mem_cons.mpr ⟨⟨m_fact_11, (Or.inl mw_308), mw_309, mw_310⟩, List.forall_mem_cons.mpr ⟨trivial, List.forall_mem_cons.mpr ⟨trivial, List.forall_mem_cons.mpr ⟨trivial, List.forall_mem_cons.mpr ⟨trivial, List.forall_mem_cons.mpr ⟨trivial, List.forall_mem_cons.mpr ⟨trivial, fun _ h => nomatch h⟩⟩⟩⟩⟩⟩⟩⟩⟩⟩⟩⟩⟩⟩⟩⟩⟩⟩⟩⟩⟩⟩
theorem m_dec_23 : (mt_23.all fun r => decide (decode (m_b 23) r.1 = .ok (r.2.1, m_len r.2.1)) && m_jumpb r.1 r.2.1 r.2.2.1) = true := by decide +kernel
set_option maxRecDepth 20000 in
theorem m_wrd_23 : ∀ r ∈ mt_23, m_okw 23 r.1 r.2.1 r.2.2.1 r.2.2.2 := List.forall_mem_cons.mpr ⟨trivial, List.forall_mem_cons.mpr ⟨⟨_, rfl, (by decide), Or.inl mw_60⟩, List.forall_mem_cons.mpr ⟨trivial, List.forall_mem_cons.mpr ⟨trivial, List.forall_mem_cons.mpr ⟨trivial, List.forall_mem_cons.mpr ⟨trivial, List.forall_mem_cons.mpr ⟨trivial, List.forall_mem_cons.mpr ⟨trivial, List.forall_mem_cons.mpr ⟨trivial, List.forall_mem_cons.mpr ⟨trivial, List.forall_mem_cons.mpr ⟨trivial, List.forall_mem_cons.mpr ⟨trivial, List.forall_mem_cons.mpr ⟨trivial, List.forall_mem_cons.mpr ⟨trivial, List.forall_mem_cons.mpr ⟨trivial, List.forall_mem_cons.mpr ⟨trivial, List.forall_mem_cons.mpr ⟨trivial, List.forall_mem_cons.mpr ⟨trivial, List.forall_mem_cons.mpr ⟨trivial, List.forall_mem_cons.mpr ⟨trivial, List.forall_mem_cons.mpr ⟨trivial, List.forall_mem_cons.mpr ⟨trivial, List.forall_mem_cons.mpr ⟨trivial, List.forall_mem_cons.mpr ⟨trivial, List.forall_mem_cons.mpr ⟨⟨m_fact_11, (Or.inl mw_308), mw_309, mw_310⟩, List.forall_mem_cons.mpr ⟨trivial, List.forall_mem_cons.mpr ⟨⟨_, rfl, (by decide), Or.inl mw_60⟩, List.forall_mem_cons.mpr ⟨trivial, List.forall_mem_cons.mpr ⟨trivial, List.forall_mem_cons.mpr ⟨trivial, List.forall_mem_cons.mpr ⟨trivial, List.forall_mem_cons.mpr ⟨trivial, List.forall_mem_cons.mpr ⟨trivial, List.forall_mem_cons.mpr ⟨trivial, List.forall_mem_cons.mpr ⟨trivial, List.forall_mem_cons.mpr ⟨trivial, List.forall_mem_cons.mpr ⟨trivial, List.forall_mem_cons.mpr ⟨trivial, List.forall_mem_cons.mpr ⟨trivial, List.forall_mem_cons.mpr ⟨trivial, List.forall_mem_cons.mpr ⟨trivial, List.forall_mem_cons.mpr ⟨trivial, List.forall_mem_cons.mpr ⟨⟨_, rfl, (by decide), Or.inl mw_60⟩, List.forall_mem_cons.mpr ⟨trivial, List.forall_mem_cons.mpr ⟨trivial, List.forall_mem_cons.mpr ⟨trivial, List.forall_mem_cons.mpr ⟨trivial, List.forall_mem_cons.mpr ⟨trivial, List.forall_mem_cons.mpr ⟨trivial, fun _ h => nomatch h⟩⟩⟩⟩⟩⟩⟩⟩⟩⟩⟩⟩⟩⟩⟩⟩⟩⟩⟩⟩⟩⟩⟩⟩⟩⟩⟩⟩⟩⟩⟩⟩⟩⟩⟩⟩⟩⟩⟩⟩⟩⟩⟩⟩⟩⟩⟩⟩⟩
theorem m_dec_24 : (mt_24.all fun r => decide (decode (m_b 24) r.1 = .ok (r.2.1, m_len r.2.1)) && m_jumpb r.1 r.2.1 r.2.2.1) = true := by decide +kernel
set_option maxRecDepth 20000 in
theorem m_wrd_24 : ∀ r ∈ mt_24, m_okw 24 r.1 r.2.1 r.2.2.1 r.2.2.2 := List.forall_mem_cons.mpr ⟨trivial, List.forall_mem_cons.mpr ⟨⟨_, rfl, (by decide), Or.inl mw_58⟩, List.forall_mem_cons.mpr ⟨trivial, List.forall_mem_cons.mpr ⟨trivial, List.forall_mem_cons.mpr ⟨trivial, List.forall_mem_cons.mpr ⟨trivial, List.forall_mem_cons.mpr ⟨trivial, List.forall_mem_cons.mpr ⟨trivial, List.forall_mem_cons.mpr ⟨trivial, List.forall_mem_cons.mpr ⟨trivial, List.forall_mem_cons.mpr ⟨trivial, List.forall_mem_cons.mpr ⟨⟨_, rfl, (by decide), Or.inl mw_58⟩, List.forall_mem_cons.mpr ⟨trivial, List.forall_mem_cons.mpr ⟨trivial, List.forall_mem_cons.mpr ⟨trivial, List.forall_mem_cons.mpr ⟨trivial, List.forall_mem_cons.mpr ⟨trivial, List.forall_mem_cons.mpr ⟨⟨_, rfl, (by decide), Or.inl mw_58⟩, List.forall_mem_cons.mpr ⟨trivial, List.forall_mem_cons.mpr ⟨trivial, List.forall_mem_cons.mpr ⟨trivial, List.forall_mem_cons.mpr ⟨⟨m_fact_11, (Or.inl mw_308), mw_309, mw_310⟩, List.forall_mem_cons.mpr ⟨trivial, List.forall_mem_cons.mpr ⟨⟨_, rfl, (by decide), Or.inl mw_60⟩, List.forall_mem_cons.mpr ⟨trivial, List.forall_mem_cons.mpr ⟨trivial, List.forall_mem_cons.mpr ⟨trivial, List.forall_mem_cons.mpr ⟨trivial, List.forall_mem_cons.mpr ⟨trivial, List.forall_mem_cons.mpr ⟨⟨fun h => absurd h (by decide), fun _ => ⟨m_fact_25, (Or.inl mw_320), mw_321⟩⟩, List.forall_mem_cons.mpr ⟨trivial, List.forall_mem_cons.mpr ⟨trivial, List.forall_mem_cons.mpr ⟨trivial, List.forall_mem_cons.mpr ⟨trivial, fun _ h => nomatch h⟩⟩⟩⟩⟩⟩⟩⟩⟩⟩⟩⟩⟩⟩⟩⟩⟩⟩⟩⟩⟩⟩⟩⟩⟩⟩⟩⟩⟩⟩⟩⟩⟩⟩
theorem m_dec_25 : (mt_25.all fun r => decide (decode (m_b 25) r.1 = .ok (r.2.1, m_len r.2.1)) && m_jumpb r.1 r.2.1 r.2.2.1) = true := by decide +kernel
set_option maxRecDepth 20000 in
theorem m_wrd_25 : ∀ r ∈ mt_25, m_okw 25 r.1 r.2.1 r.2.2.1 r.2.2.2 := List.forall_mem_cons.mpr ⟨trivial, List.forall_mem_cons.mpr ⟨trivial, List.forall_mem_cons.mpr ⟨trivial, List.forall_mem_cons.mpr ⟨trivial, List.forall_mem_cons.mpr ⟨trivial, List.forall_mem_cons.mpr ⟨trivial, List.forall_mem_cons.mpr ⟨trivial, List.forall_mem_cons.mpr ⟨⟨fun h => absurd h (by decide), fun _ => ⟨m_fact_44, (Or.inr mw_307), mw_129⟩⟩, List.forall_mem_cons.mpr ⟨trivial, List.forall_mem_cons.mpr ⟨trivial, List.forall_mem_cons.mpr ⟨trivial, List.forall_mem_cons.mpr ⟨trivial, List.forall_mem_cons.mpr ⟨trivial, fun _ h => nomatch h⟩⟩⟩⟩⟩⟩⟩⟩⟩⟩⟩⟩⟩
theorem m_dec_26 : (mt_26.all fun r => decide (decode (m_b 26) r.1 = .ok (r.2.1, m_len r.2.1)) && m_jumpb r.1 r.2.1 r.2.2.1) = true := by decide +kernel
set_option maxRecDepth 20000 in
theorem m_wrd_26 : ∀ r ∈ mt_26, m_okw 26 r.1 r.2.1 r.2.2.1 r.2.2.2 := List.forall_mem_cons.mpr ⟨trivial, List.forall_mem_cons.mpr ⟨⟨fun _ => ⟨mw_18, mw_oi, mw_oc⟩, fun h => absurd rfl h⟩, List.forall_mem_cons.mpr ⟨trivial, List.forall_mem_cons.mpr ⟨⟨fun _ => ⟨_, rfl, mw_21, mw_22, mw_2⟩, (fun h => nomatch h)⟩, List.forall_mem_cons.mpr ⟨trivial, List.forall_mem_cons.mpr ⟨⟨fun h => absurd h (by decide), fun _ => ⟨m_fact_0, (Or.inr mw_23), mw_24, mw_25, rfl⟩⟩, List.forall_mem_cons.mpr ⟨⟨_, rfl, (by decide), Or.inr (Or.inr ⟨rfl, rfl, rfl, mw_68⟩)⟩, List.forall_mem_cons.mpr ⟨trivial, List.forall_mem_cons.mpr ⟨⟨fun _ => ⟨_, rfl, mw_52, mw_53, mw_3⟩, (fun h => nomatch h)⟩, List.forall_mem_cons.mpr ⟨trivial, List.forall_mem_cons.mpr ⟨⟨fun h => absurd h (by decide), fun _ => ⟨m_fact_19, (Or.inr mw_54), mw_55, mw_56, rfl⟩⟩, List.forall_mem_cons.mpr ⟨⟨_, rfl, (by decide), Or.inr (Or.inr ⟨rfl, rfl, rfl, mw_69⟩)⟩, List.forall_mem_cons.mpr ⟨trivial, List.forall_mem_cons.mpr ⟨trivial, List.forall_mem_cons.mpr ⟨⟨mw_66, mw_67⟩, List.forall_mem_cons.mpr ⟨⟨_, rfl, (by decide), Or.inr (Or.inr ⟨rfl, rfl, rfl, mw_70⟩)⟩, List.forall_mem_cons.mpr ⟨trivial, List.forall_mem_cons.mpr ⟨trivial, List.forall_mem_cons.mpr ⟨⟨_, rfl, (by decide), Or.inl ⟨rfl, mw_71⟩⟩, List.forall_mem_cons.mpr ⟨trivial, List.forall_mem_cons.mpr ⟨trivial, List.forall_mem_cons.mpr ⟨⟨_, rfl, (by decide), Or.inl ⟨rfl, mw_72⟩⟩, List.forall_mem_cons.mpr ⟨trivial, fun _ h => nomatch h⟩⟩⟩⟩⟩⟩⟩⟩⟩⟩⟩⟩⟩⟩⟩⟩⟩⟩⟩⟩⟩⟩⟩
theorem m_dec_27 : (mt_27.all fun r => decide (decode (m_b 27) r.1 = .ok (r.2.1, m_len r.2.1)) && m_jumpb r.1 r.2.1 r.2.2.1) = true := by decide +kernel
set_option maxRecDepth 20000 in
theorem m_wrd_27 : ∀ r ∈ mt_27, m_okw 27 r.1 r.2.1 r.2.2.1 r.2.2.2 := List.forall_mem_cons.mpr ⟨trivial, List.forall_mem_cons.mpr ⟨trivial, List.forall_mem_cons.mpr ⟨trivial, List.forall_mem_cons.mpr ⟨trivial, List.forall_mem_cons.mpr ⟨trivial, List.forall_mem_cons.mpr ⟨⟨(fun h => nomatch h), fun _ => ⟨38, 40, "a node is 0 .. 7", (by decide +kernel), (by decide +kernel), (by decide +kernel), (by decide +kernel), (by decide), mw_175, mw_8, mw_216, m_own_0⟩⟩, List.forall_mem_cons.mpr ⟨trivial, List.forall_mem_cons.mpr ⟨trivial, List.forall_mem_cons.mpr ⟨trivial, List.forall_mem_cons.mpr ⟨trivial, List.forall_mem_cons.mpr ⟨trivial, List.forall_mem_cons.mpr ⟨⟨(fun h => nomatch h), fun _ => ⟨43, 40, "a node has 0 .. 4 places", (by decide +kernel), (by decide +kernel), (by decide +kernel), (by decide +kernel), (by decide), mw_175, mw_8, mw_243, m_own_0⟩⟩, List.forall_mem_cons.mpr ⟨trivial, List.forall_mem_cons.mpr ⟨⟨_, rfl, (by decide), Or.inl mw_68⟩, List.forall_mem_cons.mpr ⟨trivial, List.forall_mem_cons.mpr ⟨⟨m_fact_2, (Or.inl mw_145), mw_125, mw_126⟩, List.forall_mem_cons.mpr ⟨trivial, List.forall_mem_cons.mpr ⟨⟨(fun h => nomatch h), fun _ => ⟨51, 53, "there is such a node", (by decide +kernel), (by decide +kernel), (by decide +kernel), (by decide +kernel), (by decide), mw_244, mw_9, mw_253, m_own_1⟩⟩, List.forall_mem_cons.mpr ⟨trivial, List.forall_mem_cons.mpr ⟨⟨_, rfl, (by decide), Or.inl mw_68⟩, List.forall_mem_cons.mpr ⟨⟨_, rfl, (by decide), Or.inl mw_29⟩, List.forall_mem_cons.mpr ⟨trivial, List.forall_mem_cons.mpr ⟨⟨(fun h => nomatch h), fun _ => ⟨57, 53, "a contact was made", (by decide +kernel), (by decide +kernel), (by decide +kernel), (by decide +kernel), (by decide), mw_244, mw_9, mw_260, m_own_1⟩⟩, List.forall_mem_cons.mpr ⟨trivial, List.forall_mem_cons.mpr ⟨⟨_, rfl, (by decide), Or.inl mw_68⟩, List.forall_mem_cons.mpr ⟨trivial, List.forall_mem_cons.mpr ⟨trivial, List.forall_mem_cons.mpr ⟨⟨m_fact_4, (Or.inl mw_261), mw_262, mw_263⟩, List.forall_mem_cons.mpr ⟨trivial, List.forall_mem_cons.mpr ⟨⟨_, rfl, (by decide), Or.inl mw_68⟩, List.forall_mem_cons.mpr ⟨⟨_, rfl, (by decide), Or.inl mw_27⟩, List.forall_mem_cons.mpr ⟨trivial, fun _ h => nomatch h⟩⟩⟩⟩⟩⟩⟩⟩⟩⟩⟩⟩⟩⟩⟩⟩⟩⟩⟩⟩⟩⟩⟩⟩⟩⟩⟩⟩⟩⟩⟩⟩
theorem m_dec_28 : (mt_28.all fun r => decide (decode (m_b 28) r.1 = .ok (r.2.1, m_len r.2.1)) && m_jumpb r.1 r.2.1 r.2.2.1) = true := by decide +kernel
set_option maxRecDepth 20000 in
theorem m_wrd_28 : ∀ r ∈ mt_28, m_okw 28 r.1 r.2.1 r.2.2.1 r.2.2.2 := List.forall_mem_cons.mpr ⟨trivial, List.forall_mem_cons.mpr ⟨trivial, List.forall_mem_cons.mpr ⟨trivial, List.forall_mem_cons.mpr ⟨⟨m_fact_46, (Or.inl mw_272), mw_274, mwp_2⟩, List.forall_mem_cons.mpr ⟨trivial, List.forall_mem_cons.mpr ⟨trivial, List.forall_mem_cons.mpr ⟨⟨_, rfl, (by decide), Or.inl mw_72⟩, List.forall_mem_cons.mpr ⟨trivial, List.forall_mem_cons.mpr ⟨trivial, List.forall_mem_cons.mpr ⟨trivial, List.forall_mem_cons.mpr ⟨trivial, List.forall_mem_cons.mpr ⟨trivial, List.forall_mem_cons.mpr ⟨trivial, List.forall_mem_cons.mpr ⟨trivial, List.forall_mem_cons.mpr ⟨⟨(fun h => nomatch h), fun _ => ⟨69, 40, "no ticks for a contact", (by decide +kernel), (by decide +kernel), (by decide +kernel), (by decide +kernel), (by decide), mw_175, mw_8, mw_277, m_own_0⟩⟩, List.forall_mem_cons.mpr ⟨trivial, List.forall_mem_cons.mpr ⟨⟨_, rfl, (by decide), Or.inl mw_68⟩, List.forall_mem_cons.mpr ⟨⟨_, rfl, (by decide), Or.inl mw_29⟩, List.forall_mem_cons.mpr ⟨trivial, List.forall_mem_cons.mpr ⟨trivial, List.forall_mem_cons.mpr ⟨⟨(fun h => nomatch h), fun _ => ⟨71, 53, "24 contacts were made", (by decide +kernel), (by decide +kernel), (by decide +kernel), (by decide +kernel), (by decide), mw_244, mw_9, mw_278, m_own_1⟩⟩, List.forall_mem_cons.mpr ⟨trivial, List.forall_mem_cons.mpr ⟨⟨_, rfl, (by decide), Or.inl mw_68⟩, List.forall_mem_cons.mpr ⟨trivial, List.forall_mem_cons.mpr ⟨trivial, List.forall_mem_cons.mpr ⟨trivial, List.forall_mem_cons.mpr ⟨trivial, List.forall_mem_cons.mpr ⟨⟨m_fact_5, (Or.inl mw_154), mw_155, mw_156⟩, List.forall_mem_cons.mpr ⟨trivial, List.forall_mem_cons.mpr ⟨⟨(fun h => nomatch h), fun _ => ⟨77, 53, "the pair is open in one of these ticks", (by decide +kernel), (by decide +kernel), (by decide +kernel), (by decide +kernel), (by decide), mw_244, mw_9, mw_279, m_own_1⟩⟩, List.forall_mem_cons.mpr ⟨trivial, List.forall_mem_cons.mpr ⟨⟨_, rfl, (by decide), Or.inl mw_68⟩, List.forall_mem_cons.mpr ⟨trivial, List.forall_mem_cons.mpr ⟨trivial, List.forall_mem_cons.mpr ⟨trivial, List.forall_mem_cons.mpr ⟨trivial, List.forall_mem_cons.mpr ⟨⟨m_fact_6, (Or.inl mw_280), mw_281, mw_282⟩, List.forall_mem_cons.mpr ⟨trivial, List.forall_mem_cons.mpr ⟨⟨_, rfl, (by decide), Or.inl mw_68⟩, List.forall_mem_cons.mpr ⟨⟨_, rfl, (by decide), Or.inl mw_29⟩, List.forall_mem_cons.mpr ⟨trivial, fun _ h => nomatch h⟩⟩⟩⟩⟩⟩⟩⟩⟩⟩⟩⟩⟩⟩⟩⟩⟩⟩⟩⟩⟩⟩⟩⟩⟩⟩⟩⟩⟩⟩⟩⟩⟩⟩⟩⟩⟩⟩⟩⟩⟩
theorem m_dec_29 : (mt_29.all fun r => decide (decode (m_b 29) r.1 = .ok (r.2.1, m_len r.2.1)) && m_jumpb r.1 r.2.1 r.2.2.1) = true := by decide +kernel
set_option maxRecDepth 20000 in
theorem m_wrd_29 : ∀ r ∈ mt_29, m_okw 29 r.1 r.2.1 r.2.2.1 r.2.2.2 := List.forall_mem_cons.mpr ⟨trivial, List.forall_mem_cons.mpr ⟨⟨_, rfl, (by decide), Or.inl mw_72⟩, List.forall_mem_cons.mpr ⟨trivial, fun _ h => nomatch h⟩⟩⟩
theorem m_dec_30 : (mt_30.all fun r => decide (decode (m_b 30) r.1 = .ok (r.2.1, m_len r.2.1)) && m_jumpb r.1 r.2.1 r.2.2.1) = true := by decide +kernel
set_option maxRecDepth 20000 in
theorem m_wrd_30 : ∀ r ∈ mt_30, m_okw 30 r.1 r.2.1 r.2.2.1 r.2.2.2 := List.forall_mem_cons.mpr ⟨trivial, List.forall_mem_cons.mpr ⟨trivial, List.forall_mem_cons.mpr ⟨trivial, List.forall_mem_cons.mpr ⟨trivial, List.forall_mem_cons.mpr ⟨⟨m_fact_47, (Or.inl mw_291), mw_293, mwp_3⟩, List.forall_mem_cons.mpr ⟨trivial, List.forall_mem_cons.mpr ⟨⟨_, rfl, (by decide), Or.inl mw_69⟩, List.forall_mem_cons.mpr ⟨trivial, List.forall_mem_cons.mpr ⟨⟨_, rfl, (by decide), Or.inl mw_68⟩, List.forall_mem_cons.mpr ⟨trivial, List.forall_mem_cons.mpr ⟨trivial, List.forall_mem_cons.mpr ⟨trivial, List.forall_mem_cons.mpr ⟨⟨m_fact_20, (Or.inl mw_297), mw_298, mw_299⟩, List.forall_mem_cons.mpr ⟨trivial, List.forall_mem_cons.mpr ⟨trivial, List.forall_mem_cons.mpr ⟨trivial, List.forall_mem_cons.mpr ⟨trivial, List.forall_mem_cons.mpr ⟨trivial, List.forall_mem_cons.mpr ⟨trivial, List.forall_mem_cons.mpr ⟨⟨fun _ => ⟨_, rfl, mw_66, mw_323, mw_10⟩, (fun h => nomatch h)⟩, List.forall_mem_cons.mpr ⟨trivial, List.forall_mem_cons.mpr ⟨trivial, List.forall_mem_cons.mpr ⟨trivial, List.forall_mem_cons.mpr ⟨⟨fun h => absurd h (by decide), fun _ => ⟨m_fact_14, (Or.inl mw_324), mw_325, mw_326, rfl⟩⟩, List.forall_mem_cons.mpr ⟨trivial, List.forall_mem_cons.mpr ⟨trivial, List.forall_mem_cons.mpr ⟨trivial, List.forall_mem_cons.mpr ⟨trivial, List.forall_mem_cons.mpr ⟨trivial, List.forall_mem_cons.mpr ⟨⟨m_fact_48, (Or.inl mw_349), mw_351, mwp_6⟩, List.forall_mem_cons.mpr ⟨trivial, List.forall_mem_cons.mpr ⟨⟨_, rfl, (by decide), Or.inl mw_70⟩, List.forall_mem_cons.mpr ⟨trivial, List.forall_mem_cons.mpr ⟨⟨_, rfl, (by decide), Or.inl mw_71⟩, List.forall_mem_cons.mpr ⟨trivial, List.forall_mem_cons.mpr ⟨trivial, List.forall_mem_cons.mpr ⟨trivial, List.forall_mem_cons.mpr ⟨trivial, List.forall_mem_cons.mpr ⟨⟨_, rfl, (by decide), Or.inl mw_71⟩, List.forall_mem_cons.mpr ⟨trivial, List.forall_mem_cons.mpr ⟨trivial, List.forall_mem_cons.mpr ⟨⟨_, rfl, (by decide), Or.inl ⟨rfl, mw_71⟩⟩, List.forall_mem_cons.mpr ⟨trivial, List.forall_mem_cons.mpr ⟨⟨_, rfl, (by decide), Or.inl mw_71⟩, List.forall_mem_cons.mpr ⟨trivial, List.forall_mem_cons.mpr ⟨trivial, List.forall_mem_cons.mpr ⟨trivial, fun _ h => nomatch h⟩⟩⟩⟩⟩⟩⟩⟩⟩⟩⟩⟩⟩⟩⟩⟩⟩⟩⟩⟩⟩⟩⟩⟩⟩⟩⟩⟩⟩⟩⟩⟩⟩⟩⟩⟩⟩⟩⟩⟩⟩⟩⟩⟩⟩⟩⟩
theorem m_dec_31 : (mt_31.all fun r => decide (decode (m_b 31) r.1 = .ok (r.2.1, m_len r.2.1)) && m_jumpb r.1 r.2.1 r.2.2.1) = true := by decide +kernel
set_option maxRecDepth 20000 in
theorem m_wrd_31 : ∀ r ∈ mt_31, m_okw 31 r.1 r.2.1 r.2.2.1 r.2.2.2 := List.forall_mem_cons.mpr ⟨trivial, List.forall_mem_cons.mpr ⟨trivial, List.forall_mem_cons.mpr ⟨trivial, List.forall_mem_cons.mpr ⟨trivial, List.forall_mem_cons.mpr ⟨⟨m_fact_47, (Or.inl mw_291), mw_293, mwp_3⟩, List.forall_mem_cons.mpr ⟨trivial, List.forall_mem_cons.mpr ⟨⟨_, rfl, (by decide), Or.inl mw_69⟩, List.forall_mem_cons.mpr ⟨trivial, List.forall_mem_cons.mpr ⟨⟨_, rfl, (by decide), Or.inl mw_68⟩, List.forall_mem_cons.mpr ⟨trivial, List.forall_mem_cons.mpr ⟨trivial, List.forall_mem_cons.mpr ⟨trivial, List.forall_mem_cons.mpr ⟨⟨m_fact_20, (Or.inl mw_297), mw_298, mw_299⟩, List.forall_mem_cons.mpr ⟨trivial, fun _ h => nomatch h⟩⟩⟩⟩⟩⟩⟩⟩⟩⟩⟩⟩⟩⟩
theorem m_dec_32 : (mt_32.all fun r => decide (decode (m_b 32) r.1 = .ok (r.2.1, m_len r.2.1)) && m_jumpb r.1 r.2.1 r.2.2.1) = true := by decide +kernel
set_option maxRecDepth 20000 in
theorem m_wrd_32 : ∀ r ∈ mt_32, m_okw 32 r.1 r.2.1 r.2.2.1 r.2.2.2 := List.forall_mem_cons.mpr ⟨trivial, List.forall_mem_cons.mpr ⟨trivial, List.forall_mem_cons.mpr ⟨⟨m_fact_45, (Or.inl mw_92), mw_94, mwp_0⟩, List.forall_mem_cons.mpr ⟨trivial, List.forall_mem_cons.mpr ⟨trivial, List.forall_mem_cons.mpr ⟨trivial, List.forall_mem_cons.mpr ⟨⟨(fun h => nomatch h), fun _ => ⟨103, 105, "there is no such parcel", (by decide +kernel), (by decide +kernel), (by decide +kernel), (by decide +kernel), (by decide), mw_372, mw_11, mw_381, m_own_2⟩⟩, List.forall_mem_cons.mpr ⟨trivial, List.forall_mem_cons.mpr ⟨trivial, List.forall_mem_cons.mpr ⟨⟨_, rfl, (by decide), Or.inl mw_72⟩, List.forall_mem_cons.mpr ⟨⟨m_fact_16, (Or.inl mw_388), mw_389, mw_390⟩, List.forall_mem_cons.mpr ⟨trivial, List.forall_mem_cons.mpr ⟨⟨(fun h => nomatch h), fun _ => ⟨109, 53, "the parcel is neither booked nor travelling", (by decide +kernel), (by decide +kernel), (by decide +kernel), (by decide +kernel), (by decide), mw_244, mw_9, mw_393, m_own_1⟩⟩, List.forall_mem_cons.mpr ⟨trivial, List.forall_mem_cons.mpr ⟨trivial, List.forall_mem_cons.mpr ⟨⟨_, rfl, (by decide), Or.inl ⟨rfl, mw_337⟩⟩, List.forall_mem_cons.mpr ⟨trivial, List.forall_mem_cons.mpr ⟨trivial, List.forall_mem_cons.mpr ⟨⟨m_fact_49, (Or.inl mw_394), mw_396, mwp_7⟩, List.forall_mem_cons.mpr ⟨trivial, fun _ h => nomatch h⟩⟩⟩⟩⟩⟩⟩⟩⟩⟩⟩⟩⟩⟩⟩⟩⟩⟩⟩⟩
theorem m_dec_33 : (mt_33.all fun r => decide (decode (m_b 33) r.1 = .ok (r.2.1, m_len r.2.1)) && m_jumpb r.1 r.2.1 r.2.2.1) = true := by decide +kernel
set_option maxRecDepth 20000 in
theorem m_wrd_33 : ∀ r ∈ mt_33, m_okw 33 r.1 r.2.1 r.2.2.1 r.2.2.2 := List.forall_mem_cons.mpr ⟨trivial, List.forall_mem_cons.mpr ⟨trivial, List.forall_mem_cons.mpr ⟨trivial, List.forall_mem_cons.mpr ⟨⟨m_fact_46, (Or.inl mw_272), mw_274, mwp_2⟩, List.forall_mem_cons.mpr ⟨trivial, List.forall_mem_cons.mpr ⟨⟨_, rfl, (by decide), Or.inl mw_68⟩, List.forall_mem_cons.mpr ⟨trivial, List.forall_mem_cons.mpr ⟨trivial, List.forall_mem_cons.mpr ⟨trivial, List.forall_mem_cons.mpr ⟨⟨_, rfl, (by decide), Or.inl mw_72⟩, List.forall_mem_cons.mpr ⟨⟨m_fact_7, (Or.inl mw_412), mw_413, mw_414⟩, List.forall_mem_cons.mpr ⟨trivial, List.forall_mem_cons.mpr ⟨trivial, List.forall_mem_cons.mpr ⟨trivial, List.forall_mem_cons.mpr ⟨⟨m_fact_50, (Or.inl mw_416), mw_418, mwp_8⟩, List.forall_mem_cons.mpr ⟨trivial, List.forall_mem_cons.mpr ⟨trivial, List.forall_mem_cons.mpr ⟨trivial, List.forall_mem_cons.mpr ⟨trivial, List.forall_mem_cons.mpr ⟨trivial, List.forall_mem_cons.mpr ⟨trivial, List.forall_mem_cons.mpr ⟨trivial, List.forall_mem_cons.mpr ⟨⟨_, rfl, (by decide), Or.inl mw_71⟩, List.forall_mem_cons.mpr ⟨trivial, List.forall_mem_cons.mpr ⟨trivial, List.forall_mem_cons.mpr ⟨trivial, List.forall_mem_cons.mpr ⟨⟨m_fact_45, (Or.inl mw_92), mw_94, mwp_0⟩, List.forall_mem_cons.mpr ⟨trivial, List.forall_mem_cons.mpr ⟨trivial, List.forall_mem_cons.mpr ⟨trivial, List.forall_mem_cons.mpr ⟨trivial, List.forall_mem_cons.mpr ⟨trivial, List.forall_mem_cons.mpr ⟨trivial, List.forall_mem_cons.mpr ⟨trivial, List.forall_mem_cons.mpr ⟨trivial, List.forall_mem_cons.mpr ⟨trivial, List.forall_mem_cons.mpr ⟨trivial, List.forall_mem_cons.mpr ⟨trivial, List.forall_mem_cons.mpr ⟨trivial, List.forall_mem_cons.mpr ⟨trivial, List.forall_mem_cons.mpr ⟨⟨m_fact_51, (Or.inl mw_425), mw_427, mwp_9⟩, List.forall_mem_cons.mpr ⟨trivial, List.forall_mem_cons.mpr ⟨trivial, List.forall_mem_cons.mpr ⟨trivial, List.forall_mem_cons.mpr ⟨⟨_, rfl, (by decide), Or.inl ⟨rfl, mw_337⟩⟩, List.forall_mem_cons.mpr ⟨trivial, List.forall_mem_cons.mpr ⟨trivial, List.forall_mem_cons.mpr ⟨trivial, List.forall_mem_cons.mpr ⟨trivial, List.forall_mem_cons.mpr ⟨trivial, fun _ h => nomatch h⟩⟩⟩⟩⟩⟩⟩⟩⟩⟩⟩⟩⟩⟩⟩⟩⟩⟩⟩⟩⟩⟩⟩⟩⟩⟩⟩⟩⟩⟩⟩⟩⟩⟩⟩⟩⟩⟩⟩⟩⟩⟩⟩⟩⟩⟩⟩⟩⟩⟩
theorem m_dec_34 : (mt_34.all fun r => decide (decode (m_b 34) r.1 = .ok (r.2.1, m_len r.2.1)) && m_jumpb r.1 r.2.1 r.2.2.1) = true := by decide +kernel
set_option maxRecDepth 20000 in
theorem m_wrd_34 : ∀ r ∈ mt_34, m_okw 34 r.1 r.2.1 r.2.2.1 r.2.2.2 := List.forall_mem_cons.mpr ⟨trivial, List.forall_mem_cons.mpr ⟨⟨_, rfl, (by decide), Or.inl mw_72⟩, List.forall_mem_cons.mpr ⟨trivial, List.forall_mem_cons.mpr ⟨trivial, List.forall_mem_cons.mpr ⟨⟨(fun h => nomatch h), fun _ => ⟨129, 53, "NOW is 64", (by decide +kernel), (by decide +kernel), (by decide +kernel), (by decide +kernel), (by decide), mw_244, mw_9, mw_436, m_own_1⟩⟩, List.forall_mem_cons.mpr ⟨trivial, List.forall_mem_cons.mpr ⟨trivial, List.forall_mem_cons.mpr ⟨⟨_, rfl, (by decide), Or.inl mw_72⟩, List.forall_mem_cons.mpr ⟨trivial, List.forall_mem_cons.mpr ⟨trivial, List.forall_mem_cons.mpr ⟨⟨_, rfl, (by decide), Or.inl ⟨rfl, mw_72⟩⟩, List.forall_mem_cons.mpr ⟨trivial, List.forall_mem_cons.mpr ⟨trivial, List.forall_mem_cons.mpr ⟨trivial, List.forall_mem_cons.mpr ⟨trivial, List.forall_mem_cons.mpr ⟨trivial, List.forall_mem_cons.mpr ⟨trivial, List.forall_mem_cons.mpr ⟨⟨_, rfl, (by decide), Or.inl mw_71⟩, List.forall_mem_cons.mpr ⟨trivial, List.forall_mem_cons.mpr ⟨trivial, List.forall_mem_cons.mpr ⟨trivial, List.forall_mem_cons.mpr ⟨⟨m_fact_45, (Or.inl mw_92), mw_94, mwp_0⟩, List.forall_mem_cons.mpr ⟨trivial, List.forall_mem_cons.mpr ⟨trivial, List.forall_mem_cons.mpr ⟨trivial, List.forall_mem_cons.mpr ⟨trivial, List.forall_mem_cons.mpr ⟨trivial, List.forall_mem_cons.mpr ⟨⟨_, rfl, (by decide), Or.inl mw_72⟩, List.forall_mem_cons.mpr ⟨⟨m_fact_15, (Or.inl mw_96), mw_97, mw_98⟩, List.forall_mem_cons.mpr ⟨trivial, List.forall_mem_cons.mpr ⟨trivial, List.forall_mem_cons.mpr ⟨trivial, List.forall_mem_cons.mpr ⟨⟨_, rfl, (by decide), Or.inl mw_335⟩, List.forall_mem_cons.mpr ⟨trivial, List.forall_mem_cons.mpr ⟨⟨_, rfl, (by decide), Or.inl mw_72⟩, List.forall_mem_cons.mpr ⟨trivial, List.forall_mem_cons.mpr ⟨trivial, List.forall_mem_cons.mpr ⟨trivial, List.forall_mem_cons.mpr ⟨trivial, List.forall_mem_cons.mpr ⟨trivial, List.forall_mem_cons.mpr ⟨trivial, fun _ h => nomatch h⟩⟩⟩⟩⟩⟩⟩⟩⟩⟩⟩⟩⟩⟩⟩⟩⟩⟩⟩⟩⟩⟩⟩⟩⟩⟩⟩⟩⟩⟩⟩⟩⟩⟩⟩⟩⟩⟩⟩⟩⟩
theorem m_dec_35 : (mt_35.all fun r => decide (decode (m_b 35) r.1 = .ok (r.2.1, m_len r.2.1)) && m_jumpb r.1 r.2.1 r.2.2.1) = true := by decide +kernel
set_option maxRecDepth 20000 in
theorem m_wrd_35 : ∀ r ∈ mt_35, m_okw 35 r.1 r.2.1 r.2.2.1 r.2.2.2 := List.forall_mem_cons.mpr ⟨trivial, List.forall_mem_cons.mpr ⟨trivial, List.forall_mem_cons.mpr ⟨⟨m_fact_45, (Or.inl mw_92), mw_94, mwp_0⟩, List.forall_mem_cons.mpr ⟨trivial, List.forall_mem_cons.mpr ⟨trivial, List.forall_mem_cons.mpr ⟨trivial, List.forall_mem_cons.mpr ⟨trivial, List.forall_mem_cons.mpr ⟨trivial, List.forall_mem_cons.mpr ⟨trivial, List.forall_mem_cons.mpr ⟨trivial, List.forall_mem_cons.mpr ⟨⟨_, rfl, (by decide), Or.inl mw_72⟩, List.forall_mem_cons.mpr ⟨⟨m_fact_15, (Or.inl mw_96), mw_97, mw_98⟩, List.forall_mem_cons.mpr ⟨trivial, fun _ h => nomatch h⟩⟩⟩⟩⟩⟩⟩⟩⟩⟩⟩⟩⟩
theorem m_dec_36 : (mt_36.all fun r => decide (decode (m_b 36) r.1 = .ok (r.2.1, m_len r.2.1)) && m_jumpb r.1 r.2.1 r.2.2.1) = true := by decide +kernel
set_option maxRecDepth 20000 in
theorem m_wrd_36 : ∀ r ∈ mt_36, m_okw 36 r.1 r.2.1 r.2.2.1 r.2.2.2 := List.forall_mem_cons.mpr ⟨trivial, List.forall_mem_cons.mpr ⟨trivial, List.forall_mem_cons.mpr ⟨⟨m_fact_45, (Or.inl mw_92), mw_94, mwp_0⟩, List.forall_mem_cons.mpr ⟨trivial, List.forall_mem_cons.mpr ⟨trivial, List.forall_mem_cons.mpr ⟨trivial, List.forall_mem_cons.mpr ⟨trivial, List.forall_mem_cons.mpr ⟨trivial, List.forall_mem_cons.mpr ⟨⟨_, rfl, (by decide), Or.inl mw_72⟩, List.forall_mem_cons.mpr ⟨⟨m_fact_15, (Or.inl mw_96), mw_97, mw_98⟩, List.forall_mem_cons.mpr ⟨trivial, List.forall_mem_cons.mpr ⟨trivial, List.forall_mem_cons.mpr ⟨trivial, List.forall_mem_cons.mpr ⟨trivial, List.forall_mem_cons.mpr ⟨⟨_, rfl, (by decide), Or.inl mw_72⟩, List.forall_mem_cons.mpr ⟨⟨m_fact_17, (Or.inl mw_104), mw_105, mw_106⟩, List.forall_mem_cons.mpr ⟨trivial, List.forall_mem_cons.mpr ⟨trivial, List.forall_mem_cons.mpr ⟨trivial, fun _ h => nomatch h⟩⟩⟩⟩⟩⟩⟩⟩⟩⟩⟩⟩⟩⟩⟩⟩⟩⟩⟩
theorem m_dec_37 : (mt_37.all fun r => decide (decode (m_b 37) r.1 = .ok (r.2.1, m_len r.2.1)) && m_jumpb r.1 r.2.1 r.2.2.1) = true := by decide +kernel
set_option maxRecDepth 20000 in
theorem m_wrd_37 : ∀ r ∈ mt_37, m_okw 37 r.1 r.2.1 r.2.2.1 r.2.2.2 := List.forall_mem_cons.mpr ⟨trivial, List.forall_mem_cons.mpr ⟨trivial, List.forall_mem_cons.mpr ⟨⟨m_fact_45, (Or.inl mw_92), mw_94, mwp_0⟩, List.forall_mem_cons.mpr ⟨trivial, List.forall_mem_cons.mpr ⟨trivial, List.forall_mem_cons.mpr ⟨trivial, List.forall_mem_cons.mpr ⟨trivial, List.forall_mem_cons.mpr ⟨⟨_, rfl, (by decide), Or.inl mw_337⟩, List.forall_mem_cons.mpr ⟨trivial, List.forall_mem_cons.mpr ⟨trivial, List.forall_mem_cons.mpr ⟨⟨_, rfl, (by decide), Or.inl mw_335⟩, List.forall_mem_cons.mpr ⟨trivial, List.forall_mem_cons.mpr ⟨trivial, List.forall_mem_cons.mpr ⟨trivial, fun _ h => nomatch h⟩⟩⟩⟩⟩⟩⟩⟩⟩⟩⟩⟩⟩⟩
theorem m_dec_38 : (mt_38.all fun r => decide (decode (m_b 38) r.1 = .ok (r.2.1, m_len r.2.1)) && m_jumpb r.1 r.2.1 r.2.2.1) = true := by decide +kernel
set_option maxRecDepth 20000 in
theorem m_wrd_38 : ∀ r ∈ mt_38, m_okw 38 r.1 r.2.1 r.2.2.1 r.2.2.2 := List.forall_mem_cons.mpr ⟨trivial, List.forall_mem_cons.mpr ⟨trivial, List.forall_mem_cons.mpr ⟨⟨m_fact_45, (Or.inl mw_92), mw_94, mwp_0⟩, List.forall_mem_cons.mpr ⟨trivial, List.forall_mem_cons.mpr ⟨trivial, List.forall_mem_cons.mpr ⟨trivial, List.forall_mem_cons.mpr ⟨trivial, List.forall_mem_cons.mpr ⟨trivial, List.forall_mem_cons.mpr ⟨trivial, List.forall_mem_cons.mpr ⟨trivial, List.forall_mem_cons.mpr ⟨⟨m_fact_17, (Or.inl mw_104), mw_105, mw_106⟩, List.forall_mem_cons.mpr ⟨trivial, fun _ h => nomatch h⟩⟩⟩⟩⟩⟩⟩⟩⟩⟩⟩⟩
theorem m_dec_39 : (mt_39.all fun r => decide (decode (m_b 39) r.1 = .ok (r.2.1, m_len r.2.1)) && m_jumpb r.1 r.2.1 r.2.2.1) = true := by decide +kernel
set_option maxRecDepth 20000 in
theorem m_wrd_39 : ∀ r ∈ mt_39, m_okw 39 r.1 r.2.1 r.2.2.1 r.2.2.2 := List.forall_mem_cons.mpr ⟨trivial, List.forall_mem_cons.mpr ⟨⟨_, rfl, (by decide), Or.inl mw_68⟩, List.forall_mem_cons.mpr ⟨trivial, List.forall_mem_cons.mpr ⟨trivial, List.forall_mem_cons.mpr ⟨⟨m_fact_3, (Or.inl mw_120), mw_121, mw_122⟩, List.forall_mem_cons.mpr ⟨trivial, List.forall_mem_cons.mpr ⟨trivial, List.forall_mem_cons.mpr ⟨⟨fun h => absurd h (by decide), fun _ => ⟨m_fact_43, (Or.inl mw_131), mw_132⟩⟩, List.forall_mem_cons.mpr ⟨trivial, List.forall_mem_cons.mpr ⟨trivial, List.forall_mem_cons.mpr ⟨⟨_, rfl, (by decide), Or.inl mw_68⟩, List.forall_mem_cons.mpr ⟨trivial, List.forall_mem_cons.mpr ⟨trivial, List.forall_mem_cons.mpr ⟨trivial, List.forall_mem_cons.mpr ⟨⟨m_fact_8, (Or.inl mw_134), mw_135, mw_136⟩, List.forall_mem_cons.mpr ⟨trivial, List.forall_mem_cons.mpr ⟨trivial, List.forall_mem_cons.mpr ⟨trivial, fun _ h => nomatch h⟩⟩⟩⟩⟩⟩⟩⟩⟩⟩⟩⟩⟩⟩⟩⟩⟩⟩
theorem m_dec_40 : (mt_40.all fun r => decide (decode (m_b 40) r.1 = .ok (r.2.1, m_len r.2.1)) && m_jumpb r.1 r.2.1 r.2.2.1) = true := by decide +kernel
set_option maxRecDepth 20000 in
theorem m_wrd_40 : ∀ r ∈ mt_40, m_okw 40 r.1 r.2.1 r.2.2.1 r.2.2.2 := List.forall_mem_cons.mpr ⟨trivial, List.forall_mem_cons.mpr ⟨⟨_, rfl, (by decide), Or.inl mw_68⟩, List.forall_mem_cons.mpr ⟨trivial, List.forall_mem_cons.mpr ⟨⟨m_fact_2, (Or.inl mw_145), mw_125, mw_126⟩, List.forall_mem_cons.mpr ⟨trivial, List.forall_mem_cons.mpr ⟨trivial, List.forall_mem_cons.mpr ⟨⟨fun h => absurd h (by decide), fun _ => ⟨m_fact_43, (Or.inl mw_131), mw_132⟩⟩, List.forall_mem_cons.mpr ⟨trivial, List.forall_mem_cons.mpr ⟨trivial, List.forall_mem_cons.mpr ⟨⟨_, rfl, (by decide), Or.inl mw_68⟩, List.forall_mem_cons.mpr ⟨trivial, List.forall_mem_cons.mpr ⟨trivial, List.forall_mem_cons.mpr ⟨⟨m_fact_9, (Or.inl mw_146), mw_147, mw_148⟩, List.forall_mem_cons.mpr ⟨trivial, List.forall_mem_cons.mpr ⟨trivial, List.forall_mem_cons.mpr ⟨trivial, fun _ h => nomatch h⟩⟩⟩⟩⟩⟩⟩⟩⟩⟩⟩⟩⟩⟩⟩⟩
theorem m_dec_41 : (mt_41.all fun r => decide (decode (m_b 41) r.1 = .ok (r.2.1, m_len r.2.1)) && m_jumpb r.1 r.2.1 r.2.2.1) = true := by decide +kernel
set_option maxRecDepth 20000 in
theorem m_wrd_41 : ∀ r ∈ mt_41, m_okw 41 r.1 r.2.1 r.2.2.1 r.2.2.2 := List.forall_mem_cons.mpr ⟨trivial, List.forall_mem_cons.mpr ⟨⟨_, rfl, (by decide), Or.inl mw_68⟩, List.forall_mem_cons.mpr ⟨trivial, List.forall_mem_cons.mpr ⟨trivial, List.forall_mem_cons.mpr ⟨⟨m_fact_3, (Or.inl mw_120), mw_121, mw_122⟩, List.forall_mem_cons.mpr ⟨trivial, List.forall_mem_cons.mpr ⟨trivial, List.forall_mem_cons.mpr ⟨⟨fun h => absurd h (by decide), fun _ => ⟨m_fact_43, (Or.inl mw_131), mw_132⟩⟩, List.forall_mem_cons.mpr ⟨trivial, List.forall_mem_cons.mpr ⟨trivial, List.forall_mem_cons.mpr ⟨⟨_, rfl, (by decide), Or.inl mw_68⟩, List.forall_mem_cons.mpr ⟨trivial, List.forall_mem_cons.mpr ⟨trivial, List.forall_mem_cons.mpr ⟨trivial, List.forall_mem_cons.mpr ⟨trivial, List.forall_mem_cons.mpr ⟨trivial, List.forall_mem_cons.mpr ⟨trivial, List.forall_mem_cons.mpr ⟨⟨m_fact_5, (Or.inl mw_154), mw_155, mw_156⟩, List.forall_mem_cons.mpr ⟨trivial, List.forall_mem_cons.mpr ⟨trivial, List.forall_mem_cons.mpr ⟨trivial, List.forall_mem_cons.mpr ⟨trivial, List.forall_mem_cons.mpr ⟨trivial, fun _ h => nomatch h⟩⟩⟩⟩⟩⟩⟩⟩⟩⟩⟩⟩⟩⟩⟩⟩⟩⟩⟩⟩⟩⟩⟩
theorem m_dec_42 : (mt_42.all fun r => decide (decode (m_b 42) r.1 = .ok (r.2.1, m_len r.2.1)) && m_jumpb r.1 r.2.1 r.2.2.1) = true := by decide +kernel
set_option maxRecDepth 20000 in
theorem m_wrd_42 : ∀ r ∈ mt_42, m_okw 42 r.1 r.2.1 r.2.2.1 r.2.2.2 := List.forall_mem_cons.mpr ⟨trivial, List.forall_mem_cons.mpr ⟨⟨_, rfl, (by decide), Or.inl mw_68⟩, List.forall_mem_cons.mpr ⟨trivial, List.forall_mem_cons.mpr ⟨⟨m_fact_2, (Or.inl mw_145), mw_125, mw_126⟩, List.forall_mem_cons.mpr ⟨trivial, List.forall_mem_cons.mpr ⟨trivial, List.forall_mem_cons.mpr ⟨⟨fun h => absurd h (by decide), fun _ => ⟨m_fact_43, (Or.inl mw_131), mw_132⟩⟩, List.forall_mem_cons.mpr ⟨trivial, List.forall_mem_cons.mpr ⟨trivial, List.forall_mem_cons.mpr ⟨⟨_, rfl, (by decide), Or.inl mw_68⟩, List.forall_mem_cons.mpr ⟨trivial, List.forall_mem_cons.mpr ⟨trivial, List.forall_mem_cons.mpr ⟨⟨m_fact_10, (Or.inl mw_162), mw_163, mw_164⟩, List.forall_mem_cons.mpr ⟨trivial, List.forall_mem_cons.mpr ⟨trivial, List.forall_mem_cons.mpr ⟨trivial, fun _ h => nomatch h⟩⟩⟩⟩⟩⟩⟩⟩⟩⟩⟩⟩⟩⟩⟩⟩
theorem m_dec_43 : (mt_43.all fun r => decide (decode (m_b 43) r.1 = .ok (r.2.1, m_len r.2.1)) && m_jumpb r.1 r.2.1 r.2.2.1) = true := by decide +kernel
set_option maxRecDepth 20000 in
theorem m_wrd_43 : ∀ r ∈ mt_43, m_okw 43 r.1 r.2.1 r.2.2.1 r.2.2.2 := List.forall_mem_cons.mpr ⟨trivial, List.forall_mem_cons.mpr ⟨trivial, List.forall_mem_cons.mpr ⟨trivial, List.forall_mem_cons.mpr ⟨trivial, List.forall_mem_cons.mpr ⟨trivial, List.forall_mem_cons.mpr ⟨trivial, List.forall_mem_cons.mpr ⟨trivial, List.forall_mem_cons.mpr ⟨trivial, List.forall_mem_cons.mpr ⟨trivial, fun _ h => nomatch h⟩⟩⟩⟩⟩⟩⟩⟩⟩
theorem m_dec_44 : (mt_44.all fun r => decide (decode (m_b 44) r.1 = .ok (r.2.1, m_len r.2.1)) && m_jumpb r.1 r.2.1 r.2.2.1) = true := by decide +kernel
set_option maxRecDepth 20000 in
theorem m_wrd_44 : ∀ r ∈ mt_44, m_okw 44 r.1 r.2.1 r.2.2.1 r.2.2.2 := List.forall_mem_cons.mpr ⟨trivial, List.forall_mem_cons.mpr ⟨trivial, List.forall_mem_cons.mpr ⟨trivial, List.forall_mem_cons.mpr ⟨trivial, List.forall_mem_cons.mpr ⟨trivial, List.forall_mem_cons.mpr ⟨trivial, List.forall_mem_cons.mpr ⟨trivial, List.forall_mem_cons.mpr ⟨trivial, List.forall_mem_cons.mpr ⟨trivial, List.forall_mem_cons.mpr ⟨trivial, fun _ h => nomatch h⟩⟩⟩⟩⟩⟩⟩⟩⟩⟩
theorem m_dec_45 : (mt_45.all fun r => decide (decode (m_b 45) r.1 = .ok (r.2.1, m_len r.2.1)) && m_jumpb r.1 r.2.1 r.2.2.1) = true := by decide +kernel
set_option maxRecDepth 20000 in
theorem m_wrd_45 : ∀ r ∈ mt_45, m_okw 45 r.1 r.2.1 r.2.2.1 r.2.2.2 := List.forall_mem_cons.mpr ⟨trivial, List.forall_mem_cons.mpr ⟨trivial, List.forall_mem_cons.mpr ⟨trivial, List.forall_mem_cons.mpr ⟨trivial, List.forall_mem_cons.mpr ⟨⟨_, rfl, (by decide), Or.inl mw_71⟩, List.forall_mem_cons.mpr ⟨trivial, List.forall_mem_cons.mpr ⟨trivial, List.forall_mem_cons.mpr ⟨⟨_, rfl, (by decide), Or.inl mw_70⟩, List.forall_mem_cons.mpr ⟨trivial, List.forall_mem_cons.mpr ⟨trivial, List.forall_mem_cons.mpr ⟨trivial, List.forall_mem_cons.mpr ⟨trivial, List.forall_mem_cons.mpr ⟨trivial, fun _ h => nomatch h⟩⟩⟩⟩⟩⟩⟩⟩⟩⟩⟩⟩⟩
theorem m_dec_46 : (mt_46.all fun r => decide (decode (m_b 46) r.1 = .ok (r.2.1, m_len r.2.1)) && m_jumpb r.1 r.2.1 r.2.2.1) = true := by decide +kernel
set_option maxRecDepth 20000 in
theorem m_wrd_46 : ∀ r ∈ mt_46, m_okw 46 r.1 r.2.1 r.2.2.1 r.2.2.2 := List.forall_mem_cons.mpr ⟨trivial, List.forall_mem_cons.mpr ⟨⟨_, rfl, (by decide), Or.inl mw_68⟩, List.forall_mem_cons.mpr ⟨trivial, List.forall_mem_cons.mpr ⟨trivial, List.forall_mem_cons.mpr ⟨⟨m_fact_3, (Or.inl mw_120), mw_121, mw_122⟩, List.forall_mem_cons.mpr ⟨trivial, List.forall_mem_cons.mpr ⟨⟨(fun h => nomatch h), fun _ => ⟨159, 40, "these are no two different nodes", (by decide +kernel), (by decide +kernel), (by decide +kernel), (by decide +kernel), (by decide), mw_175, mw_8, mw_276, m_own_0⟩⟩, List.forall_mem_cons.mpr ⟨trivial, fun _ h => nomatch h⟩⟩⟩⟩⟩⟩⟩⟩
theorem m_dec_47 : (mt_47.all fun r => decide (decode (m_b 47) r.1 = .ok (r.2.1, m_len r.2.1)) && m_jumpb r.1 r.2.1 r.2.2.1) = true := by decide +kernel
set_option maxRecDepth 20000 in
theorem m_wrd_47 : ∀ r ∈ mt_47, m_okw 47 r.1 r.2.1 r.2.2.1 r.2.2.2 := List.forall_mem_cons.mpr ⟨trivial, List.forall_mem_cons.mpr ⟨trivial, List.forall_mem_cons.mpr ⟨trivial, List.forall_mem_cons.mpr ⟨⟨m_fact_46, (Or.inl mw_272), mw_274, mwp_2⟩, List.forall_mem_cons.mpr ⟨trivial, List.forall_mem_cons.mpr ⟨trivial, List.forall_mem_cons.mpr ⟨⟨_, rfl, (by decide), Or.inl mw_72⟩, List.forall_mem_cons.mpr ⟨trivial, List.forall_mem_cons.mpr ⟨trivial, List.forall_mem_cons.mpr ⟨trivial, List.forall_mem_cons.mpr ⟨trivial, List.forall_mem_cons.mpr ⟨⟨(fun h => nomatch h), fun _ => ⟨161, 40, "no tick to book for", (by decide +kernel), (by decide +kernel), (by decide +kernel), (by decide +kernel), (by decide), mw_175, mw_8, mw_295, m_own_0⟩⟩, List.forall_mem_cons.mpr ⟨trivial, List.forall_mem_cons.mpr ⟨⟨_, rfl, (by decide), Or.inl mw_71⟩, List.forall_mem_cons.mpr ⟨trivial, List.forall_mem_cons.mpr ⟨trivial, List.forall_mem_cons.mpr ⟨⟨(fun h => nomatch h), fun _ => ⟨163, 53, "32 handles are given", (by decide +kernel), (by decide +kernel), (by decide +kernel), (by decide +kernel), (by decide), mw_244, mw_9, mw_296, m_own_1⟩⟩, List.forall_mem_cons.mpr ⟨trivial, fun _ h => nomatch h⟩⟩⟩⟩⟩⟩⟩⟩⟩⟩⟩⟩⟩⟩⟩⟩⟩⟩
theorem m_dec_48 : (mt_48.all fun r => decide (decode (m_b 48) r.1 = .ok (r.2.1, m_len r.2.1)) && m_jumpb r.1 r.2.1 r.2.2.1) = true := by decide +kernel
set_option maxRecDepth 20000 in
theorem m_wrd_48 : ∀ r ∈ mt_48, m_okw 48 r.1 r.2.1 r.2.2.1 r.2.2.2 := List.forall_mem_cons.mpr ⟨trivial, List.forall_mem_cons.mpr ⟨trivial, List.forall_mem_cons.mpr ⟨trivial, List.forall_mem_cons.mpr ⟨trivial, List.forall_mem_cons.mpr ⟨trivial, List.forall_mem_cons.mpr ⟨trivial, List.forall_mem_cons.mpr ⟨⟨_, rfl, (by decide), Or.inl mw_333⟩, List.forall_mem_cons.mpr ⟨trivial, List.forall_mem_cons.mpr ⟨trivial, List.forall_mem_cons.mpr ⟨⟨_, rfl, (by decide), Or.inl mw_69⟩, List.forall_mem_cons.mpr ⟨⟨_, rfl, (by decide), Or.inl mw_59⟩, List.forall_mem_cons.mpr ⟨trivial, List.forall_mem_cons.mpr ⟨trivial, List.forall_mem_cons.mpr ⟨trivial, List.forall_mem_cons.mpr ⟨trivial, List.forall_mem_cons.mpr ⟨trivial, List.forall_mem_cons.mpr ⟨trivial, List.forall_mem_cons.mpr ⟨trivial, List.forall_mem_cons.mpr ⟨⟨_, rfl, (by decide), Or.inl ⟨rfl, mw_335⟩⟩, List.forall_mem_cons.mpr ⟨trivial, List.forall_mem_cons.mpr ⟨trivial, List.forall_mem_cons.mpr ⟨trivial, List.forall_mem_cons.mpr ⟨trivial, List.forall_mem_cons.mpr ⟨trivial, List.forall_mem_cons.mpr ⟨trivial, List.forall_mem_cons.mpr ⟨⟨_, rfl, (by decide), Or.inl mw_68⟩, List.forall_mem_cons.mpr ⟨trivial, List.forall_mem_cons.mpr ⟨⟨_, rfl, (by decide), Or.inl mw_333⟩, List.forall_mem_cons.mpr ⟨trivial, List.forall_mem_cons.mpr ⟨trivial, List.forall_mem_cons.mpr ⟨trivial, List.forall_mem_cons.mpr ⟨⟨_, rfl, (by decide), Or.inl mw_333⟩, List.forall_mem_cons.mpr ⟨trivial, List.forall_mem_cons.mpr ⟨trivial, List.forall_mem_cons.mpr ⟨trivial, List.forall_mem_cons.mpr ⟨trivial, List.forall_mem_cons.mpr ⟨trivial, List.forall_mem_cons.mpr ⟨⟨m_fact_12, (Or.inl mw_353), mw_354, mw_355⟩, List.forall_mem_cons.mpr ⟨trivial, List.forall_mem_cons.mpr ⟨trivial, List.forall_mem_cons.mpr ⟨trivial, fun _ h => nomatch h⟩⟩⟩⟩⟩⟩⟩⟩⟩⟩⟩⟩⟩⟩⟩⟩⟩⟩⟩⟩⟩⟩⟩⟩⟩⟩⟩⟩⟩⟩⟩⟩⟩⟩⟩⟩⟩⟩⟩⟩⟩
theorem m_dec_49 : (mt_49.all fun r => decide (decode (m_b 49) r.1 = .ok (r.2.1, m_len r.2.1)) && m_jumpb r.1 r.2.1 r.2.2.1) = true := by decide +kernel
set_option maxRecDepth 20000 in
theorem m_wrd_49 : ∀ r ∈ mt_49, m_okw 49 r.1 r.2.1 r.2.2.1 r.2.2.2 := List.forall_mem_cons.mpr ⟨trivial, List.forall_mem_cons.mpr ⟨⟨_, rfl, (by decide), Or.inl mw_331⟩, List.forall_mem_cons.mpr ⟨trivial, List.forall_mem_cons.mpr ⟨⟨_, rfl, (by decide), Or.inl mw_72⟩, List.forall_mem_cons.mpr ⟨⟨fun _ => ⟨mw_398, mw_ms, mw_mi, mw_mc⟩, fun h => absurd rfl h⟩, List.forall_mem_cons.mpr ⟨trivial, List.forall_mem_cons.mpr ⟨trivial, List.forall_mem_cons.mpr ⟨⟨_, rfl, (by decide), Or.inl mw_335⟩, List.forall_mem_cons.mpr ⟨trivial, List.forall_mem_cons.mpr ⟨trivial, List.forall_mem_cons.mpr ⟨trivial, List.forall_mem_cons.mpr ⟨trivial, List.forall_mem_cons.mpr ⟨trivial, List.forall_mem_cons.mpr ⟨trivial, List.forall_mem_cons.mpr ⟨trivial, List.forall_mem_cons.mpr ⟨⟨_, rfl, (by decide), Or.inl mw_335⟩, List.forall_mem_cons.mpr ⟨trivial, List.forall_mem_cons.mpr ⟨trivial, List.forall_mem_cons.mpr ⟨⟨_, rfl, (by decide), Or.inl mw_68⟩, List.forall_mem_cons.mpr ⟨trivial, List.forall_mem_cons.mpr ⟨⟨_, rfl, (by decide), Or.inl mw_333⟩, List.forall_mem_cons.mpr ⟨trivial, List.forall_mem_cons.mpr ⟨trivial, List.forall_mem_cons.mpr ⟨trivial, List.forall_mem_cons.mpr ⟨⟨_, rfl, (by decide), Or.inl mw_333⟩, List.forall_mem_cons.mpr ⟨trivial, List.forall_mem_cons.mpr ⟨trivial, List.forall_mem_cons.mpr ⟨trivial, List.forall_mem_cons.mpr ⟨trivial, List.forall_mem_cons.mpr ⟨trivial, List.forall_mem_cons.mpr ⟨⟨m_fact_13, (Or.inl mw_401), mw_402, mw_403⟩, List.forall_mem_cons.mpr ⟨trivial, List.forall_mem_cons.mpr ⟨trivial, List.forall_mem_cons.mpr ⟨trivial, List.forall_mem_cons.mpr ⟨trivial, List.forall_mem_cons.mpr ⟨⟨_, rfl, (by decide), Or.inl mw_331⟩, List.forall_mem_cons.mpr ⟨trivial, List.forall_mem_cons.mpr ⟨⟨_, rfl, (by decide), Or.inl mw_72⟩, List.forall_mem_cons.mpr ⟨trivial, List.forall_mem_cons.mpr ⟨trivial, List.forall_mem_cons.mpr ⟨trivial, List.forall_mem_cons.mpr ⟨trivial, List.forall_mem_cons.mpr ⟨⟨_, rfl, (by decide), Or.inl mw_72⟩, List.forall_mem_cons.mpr ⟨⟨_, rfl, (by decide), Or.inl ⟨rfl, mw_335⟩⟩, List.forall_mem_cons.mpr ⟨trivial, List.forall_mem_cons.mpr ⟨trivial, fun _ h => nomatch h⟩⟩⟩⟩⟩⟩⟩⟩⟩⟩⟩⟩⟩⟩⟩⟩⟩⟩⟩⟩⟩⟩⟩⟩⟩⟩⟩⟩⟩⟩⟩⟩⟩⟩⟩⟩⟩⟩⟩⟩⟩⟩⟩⟩⟩⟩
theorem m_dec_50 : (mt_50.all fun r => decide (decode (m_b 50) r.1 = .ok (r.2.1, m_len r.2.1)) && m_jumpb r.1 r.2.1 r.2.2.1) = true := by decide +kernel
set_option maxRecDepth 20000 in
theorem m_wrd_50 : ∀ r ∈ mt_50, m_okw 50 r.1 r.2.1 r.2.2.1 r.2.2.2 := List.forall_mem_cons.mpr ⟨trivial, List.forall_mem_cons.mpr ⟨trivial, List.forall_mem_cons.mpr ⟨trivial, List.forall_mem_cons.mpr ⟨trivial, List.forall_mem_cons.mpr ⟨trivial, List.forall_mem_cons.mpr ⟨trivial, List.forall_mem_cons.mpr ⟨⟨_, rfl, (by decide), Or.inl mw_71⟩, List.forall_mem_cons.mpr ⟨trivial, List.forall_mem_cons.mpr ⟨trivial, List.forall_mem_cons.mpr ⟨trivial, List.forall_mem_cons.mpr ⟨⟨m_fact_45, (Or.inl mw_92), mw_94, mwp_0⟩, List.forall_mem_cons.mpr ⟨trivial, List.forall_mem_cons.mpr ⟨trivial, List.forall_mem_cons.mpr ⟨trivial, List.forall_mem_cons.mpr ⟨trivial, List.forall_mem_cons.mpr ⟨trivial, List.forall_mem_cons.mpr ⟨⟨_, rfl, (by decide), Or.inl mw_72⟩, List.forall_mem_cons.mpr ⟨⟨m_fact_16, (Or.inl mw_388), mw_389, mw_390⟩, List.forall_mem_cons.mpr ⟨trivial, List.forall_mem_cons.mpr ⟨trivial, List.forall_mem_cons.mpr ⟨trivial, List.forall_mem_cons.mpr ⟨trivial, List.forall_mem_cons.mpr ⟨trivial, List.forall_mem_cons.mpr ⟨⟨_, rfl, (by decide), Or.inl mw_72⟩, List.forall_mem_cons.mpr ⟨⟨m_fact_18, (Or.inl mw_420), mw_421, mw_422⟩, List.forall_mem_cons.mpr ⟨trivial, List.forall_mem_cons.mpr ⟨trivial, List.forall_mem_cons.mpr ⟨trivial, List.forall_mem_cons.mpr ⟨⟨m_fact_49, (Or.inl mw_394), mw_396, mwp_7⟩, List.forall_mem_cons.mpr ⟨trivial, List.forall_mem_cons.mpr ⟨trivial, List.forall_mem_cons.mpr ⟨trivial, List.forall_mem_cons.mpr ⟨trivial, List.forall_mem_cons.mpr ⟨trivial, List.forall_mem_cons.mpr ⟨trivial, List.forall_mem_cons.mpr ⟨trivial, List.forall_mem_cons.mpr ⟨trivial, List.forall_mem_cons.mpr ⟨trivial, List.forall_mem_cons.mpr ⟨trivial, List.forall_mem_cons.mpr ⟨trivial, fun _ h => nomatch h⟩⟩⟩⟩⟩⟩⟩⟩⟩⟩⟩⟩⟩⟩⟩⟩⟩⟩⟩⟩⟩⟩⟩⟩⟩⟩⟩⟩⟩⟩⟩⟩⟩⟩⟩⟩⟩⟩⟩⟩
theorem m_dec_51 : (mt_51.all fun r => decide (decode (m_b 51) r.1 = .ok (r.2.1, m_len r.2.1)) && m_jumpb r.1 r.2.1 r.2.2.1) = true := by decide +kernel
set_option maxRecDepth 20000 in
theorem m_wrd_51 : ∀ r ∈ mt_51, m_okw 51 r.1 r.2.1 r.2.2.1 r.2.2.2 := List.forall_mem_cons.mpr ⟨trivial, List.forall_mem_cons.mpr ⟨⟨_, rfl, (by decide), Or.inl mw_331⟩, List.forall_mem_cons.mpr ⟨trivial, List.forall_mem_cons.mpr ⟨⟨_, rfl, (by decide), Or.inl mw_72⟩, List.forall_mem_cons.mpr ⟨⟨fun _ => ⟨mw_398, mw_ms, mw_mi, mw_mc⟩, fun h => absurd rfl h⟩, List.forall_mem_cons.mpr ⟨trivial, List.forall_mem_cons.mpr ⟨trivial, List.forall_mem_cons.mpr ⟨⟨_, rfl, (by decide), Or.inl mw_69⟩, List.forall_mem_cons.mpr ⟨trivial, List.forall_mem_cons.mpr ⟨⟨_, rfl, (by decide), Or.inl mw_68⟩, List.forall_mem_cons.mpr ⟨trivial, List.forall_mem_cons.mpr ⟨⟨_, rfl, (by decide), Or.inl mw_333⟩, List.forall_mem_cons.mpr ⟨trivial, List.forall_mem_cons.mpr ⟨trivial, List.forall_mem_cons.mpr ⟨trivial, List.forall_mem_cons.mpr ⟨trivial, List.forall_mem_cons.mpr ⟨⟨_, rfl, (by decide), Or.inl mw_329⟩, List.forall_mem_cons.mpr ⟨⟨m_fact_20, (Or.inl mw_297), mw_298, mw_299⟩, List.forall_mem_cons.mpr ⟨trivial, List.forall_mem_cons.mpr ⟨trivial, List.forall_mem_cons.mpr ⟨trivial, List.forall_mem_cons.mpr ⟨trivial, List.forall_mem_cons.mpr ⟨trivial, List.forall_mem_cons.mpr ⟨trivial, List.forall_mem_cons.mpr ⟨trivial, List.forall_mem_cons.mpr ⟨trivial, List.forall_mem_cons.mpr ⟨trivial, List.forall_mem_cons.mpr ⟨trivial, List.forall_mem_cons.mpr ⟨⟨m_fact_48, (Or.inl mw_349), mw_351, mwp_6⟩, List.forall_mem_cons.mpr ⟨trivial, List.forall_mem_cons.mpr ⟨trivial, fun _ h => nomatch h⟩⟩⟩⟩⟩⟩⟩⟩⟩⟩⟩⟩⟩⟩⟩⟩⟩⟩⟩⟩⟩⟩⟩⟩⟩⟩⟩⟩⟩⟩⟩
theorem m_dec_52_0 : (mt_52_0.all fun r => decide (decode (m_b 52) r.1 = .ok (r.2.1, m_len r.2.1)) && m_jumpb r.1 r.2.1 r.2.2.1) = true := by decide +kernel
set_option maxRecDepth 20000 in
theorem m_wrd_52_0 : ∀ r ∈ mt_52_0, m_okw 52 r.1 r.2.1 r.2.2.1 r.2.2.2 := List.forall_mem_cons.mpr ⟨trivial, List.forall_mem_cons.mpr ⟨⟨fun _ => ⟨mw_442, mw_oi, mw_oc⟩, fun h => absurd rfl h⟩, List.forall_mem_cons.mpr ⟨trivial, List.forall_mem_cons.mpr ⟨trivial, List.forall_mem_cons.mpr ⟨mw_51, List.forall_mem_cons.mpr ⟨trivial, List.forall_mem_cons.mpr ⟨trivial, List.forall_mem_cons.mpr ⟨trivial, List.forall_mem_cons.mpr ⟨trivial, List.forall_mem_cons.mpr ⟨trivial, List.forall_mem_cons.mpr ⟨trivial, List.forall_mem_cons.mpr ⟨trivial, List.forall_mem_cons.mpr ⟨trivial, List.forall_mem_cons.mpr ⟨trivial, List.forall_mem_cons.mpr ⟨trivial, List.forall_mem_cons.mpr ⟨trivial, List.forall_mem_cons.mpr ⟨trivial, List.forall_mem_cons.mpr ⟨trivial, List.forall_mem_cons.mpr ⟨trivial, List.forall_mem_cons.mpr ⟨trivial, List.forall_mem_cons.mpr ⟨trivial, List.forall_mem_cons.mpr ⟨trivial, List.forall_mem_cons.mpr ⟨trivial, List.forall_mem_cons.mpr ⟨trivial, List.forall_mem_cons.mpr ⟨trivial, List.forall_mem_cons.mpr ⟨trivial, List.forall_mem_cons.mpr ⟨trivial, List.forall_mem_cons.mpr ⟨trivial, List.forall_mem_cons.mpr ⟨trivial, List.forall_mem_cons.mpr ⟨trivial, List.forall_mem_cons.mpr ⟨trivial, List.forall_mem_cons.mpr ⟨trivial, List.forall_mem_cons.mpr ⟨trivial, List.forall_mem_cons.mpr ⟨trivial, List.forall_mem_cons.mpr ⟨trivial, List.forall_mem_cons.mpr ⟨trivial, List.forall_mem_cons.mpr ⟨trivial, List.forall_mem_cons.mpr ⟨⟨_, rfl, (by decide), Or.inr (Or.inr ⟨rfl, rfl, rfl, mw_446⟩)⟩, List.forall_mem_cons.mpr ⟨trivial, List.forall_mem_cons.mpr ⟨trivial, List.forall_mem_cons.mpr ⟨mw_489, List.forall_mem_cons.mpr ⟨⟨_, rfl, (by decide), Or.inr (Or.inr ⟨rfl, rfl, rfl, mw_447⟩)⟩, List.forall_mem_cons.mpr ⟨trivial, List.forall_mem_cons.mpr ⟨trivial, List.forall_mem_cons.mpr ⟨mw_51, List.forall_mem_cons.mpr ⟨⟨_, rfl, (by decide), Or.inr (Or.inr ⟨rfl, rfl, rfl, mw_449⟩)⟩, List.forall_mem_cons.mpr ⟨trivial, List.forall_mem_cons.mpr ⟨trivial, List.forall_mem_cons.mpr ⟨mw_51, List.forall_mem_cons.mpr ⟨⟨_, rfl, (by decide), Or.inr (Or.inr ⟨rfl, rfl, rfl, mw_450⟩)⟩, List.forall_mem_cons.mpr ⟨trivial, List.forall_mem_cons.mpr ⟨trivial, List.forall_mem_cons.mpr ⟨mw_51, List.forall_mem_cons.mpr ⟨⟨_, rfl, (by decide), Or.inr (Or.inr ⟨rfl, rfl, rfl, mw_451⟩)⟩, List.forall_mem_cons.mpr ⟨trivial, List.forall_mem_cons.mpr ⟨trivial, List.forall_mem_cons.mpr ⟨mw_51, List.forall_mem_cons.mpr ⟨⟨_, rfl, (by decide), Or.inr (Or.inr ⟨rfl, rfl, rfl, mw_452⟩)⟩, List.forall_mem_cons.mpr ⟨trivial, List.forall_mem_cons.mpr ⟨trivial, fun _ h => nomatch h⟩⟩⟩⟩⟩⟩⟩⟩⟩⟩⟩⟩⟩⟩⟩⟩⟩⟩⟩⟩⟩⟩⟩⟩⟩⟩⟩⟩⟩⟩⟩⟩⟩⟩⟩⟩⟩⟩⟩⟩⟩⟩⟩⟩⟩⟩⟩⟩⟩⟩⟩⟩⟩⟩⟩⟩⟩⟩⟩⟩
theorem m_dec_52_1 : (mt_52_1.all fun r => decide (decode (m_b 52) r.1 = .ok (r.2.1, m_len r.2.1)) && m_jumpb r.1 r.2.1 r.2.2.1) = true := by decide +kernel
set_option maxRecDepth 20000 in
theorem m_wrd_52_1 : ∀ r ∈ mt_52_1, m_okw 52 r.1 r.2.1 r.2.2.1 r.2.2.2 := List.forall_mem_cons.mpr ⟨mw_51, List.forall_mem_cons.mpr ⟨⟨_, rfl, (by decide), Or.inr (Or.inr ⟨rfl, rfl, rfl, mw_453⟩)⟩, List.forall_mem_cons.mpr ⟨trivial, List.forall_mem_cons.mpr ⟨trivial, List.forall_mem_cons.mpr ⟨mw_51, List.forall_mem_cons.mpr ⟨⟨_, rfl, (by decide), Or.inr (Or.inr ⟨rfl, rfl, rfl, mw_454⟩)⟩, List.forall_mem_cons.mpr ⟨trivial, List.forall_mem_cons.mpr ⟨trivial, List.forall_mem_cons.mpr ⟨mw_51, List.forall_mem_cons.mpr ⟨⟨_, rfl, (by decide), Or.inr (Or.inr ⟨rfl, rfl, rfl, mw_455⟩)⟩, List.forall_mem_cons.mpr ⟨trivial, List.forall_mem_cons.mpr ⟨trivial, List.forall_mem_cons.mpr ⟨mw_489, List.forall_mem_cons.mpr ⟨⟨_, rfl, (by decide), Or.inr (Or.inr ⟨rfl, rfl, rfl, mw_456⟩)⟩, List.forall_mem_cons.mpr ⟨trivial, List.forall_mem_cons.mpr ⟨trivial, List.forall_mem_cons.mpr ⟨mw_51, List.forall_mem_cons.mpr ⟨⟨_, rfl, (by decide), Or.inr (Or.inr ⟨rfl, rfl, rfl, mw_457⟩)⟩, List.forall_mem_cons.mpr ⟨trivial, fun _ h => nomatch h⟩⟩⟩⟩⟩⟩⟩⟩⟩⟩⟩⟩⟩⟩⟩⟩⟩⟩⟩
theorem m_dec_52 : (mt_52.all fun r => decide (decode (m_b 52) r.1 = .ok (r.2.1, m_len r.2.1)) && m_jumpb r.1 r.2.1 r.2.2.1) = true := m_all_app m_dec_52_0 (m_dec_52_1)
theorem m_wrd_52 : ∀ r ∈ mt_52, m_okw 52 r.1 r.2.1 r.2.2.1 r.2.2.2 := List.forall_mem_append.mpr ⟨m_wrd_52_0, m_wrd_52_1⟩
theorem m_dec_53 : (mt_53.all fun r => decide (decode (m_b 53) r.1 = .ok (r.2.1, m_len r.2.1)) && m_jumpb r.1 r.2.1 r.2.2.1) = true := by decide +kernel
set_option maxRecDepth 20000 in
theorem m_wrd_53 : ∀ r ∈ mt_53, m_okw 53 r.1 r.2.1 r.2.2.1 r.2.2.2 := List.forall_mem_cons.mpr ⟨trivial, List.forall_mem_cons.mpr ⟨⟨_, rfl, (by decide), Or.inl mw_443⟩, List.forall_mem_cons.mpr ⟨trivial, fun _ h => nomatch h⟩⟩⟩
theorem m_dec_54 : (mt_54.all fun r => decide (decode (m_b 54) r.1 = .ok (r.2.1, m_len r.2.1)) && m_jumpb r.1 r.2.1 r.2.2.1) = true := by decide +kernel
set_option maxRecDepth 20000 in
theorem m_wrd_54 : ∀ r ∈ mt_54, m_okw 54 r.1 r.2.1 r.2.2.1 r.2.2.2 := List.forall_mem_cons.mpr ⟨trivial, List.forall_mem_cons.mpr ⟨trivial, List.forall_mem_cons.mpr ⟨trivial, List.forall_mem_cons.mpr ⟨trivial, List.forall_mem_cons.mpr ⟨trivial, List.forall_mem_cons.mpr ⟨trivial, List.forall_mem_cons.mpr ⟨⟨_, rfl, (by decide), Or.inl mw_446⟩, List.forall_mem_cons.mpr ⟨trivial, List.forall_mem_cons.mpr ⟨trivial, List.forall_mem_cons.mpr ⟨trivial, List.forall_mem_cons.mpr ⟨trivial, List.forall_mem_cons.mpr ⟨trivial, List.forall_mem_cons.mpr ⟨trivial, List.forall_mem_cons.mpr ⟨trivial, fun _ h => nomatch h⟩⟩⟩⟩⟩⟩⟩⟩⟩⟩⟩⟩⟩⟩
theorem m_dec_55 : (mt_55.all fun r => decide (decode (m_b 55) r.1 = .ok (r.2.1, m_len r.2.1)) && m_jumpb r.1 r.2.1 r.2.2.1) = true := by decide +kernel
set_option maxRecDepth 20000 in
theorem m_wrd_55 : ∀ r ∈ mt_55, m_okw 55 r.1 r.2.1 r.2.2.1 r.2.2.2 := List.forall_mem_cons.mpr ⟨trivial, List.forall_mem_cons.mpr ⟨trivial, List.forall_mem_cons.mpr ⟨⟨m_fact_54, (Or.inl mw_506), mw_508, mwp_11⟩, List.forall_mem_cons.mpr ⟨trivial, List.forall_mem_cons.mpr ⟨trivial, List.forall_mem_cons.mpr ⟨trivial, List.forall_mem_cons.mpr ⟨⟨m_fact_54, (Or.inl mw_506), mw_508, mwp_11⟩, List.forall_mem_cons.mpr ⟨trivial, List.forall_mem_cons.mpr ⟨trivial, List.forall_mem_cons.mpr ⟨trivial, List.forall_mem_cons.mpr ⟨trivial, List.forall_mem_cons.mpr ⟨trivial, List.forall_mem_cons.mpr ⟨trivial, List.forall_mem_cons.mpr ⟨trivial, List.forall_mem_cons.mpr ⟨trivial, fun _ h => nomatch h⟩⟩⟩⟩⟩⟩⟩⟩⟩⟩⟩⟩⟩⟩⟩
theorem m_dec_56 : (mt_56.all fun r => decide (decode (m_b 56) r.1 = .ok (r.2.1, m_len r.2.1)) && m_jumpb r.1 r.2.1 r.2.2.1) = true := by decide +kernel
set_option maxRecDepth 20000 in
theorem m_wrd_56 : ∀ r ∈ mt_56, m_okw 56 r.1 r.2.1 r.2.2.1 r.2.2.2 := List.forall_mem_cons.mpr ⟨trivial, List.forall_mem_cons.mpr ⟨trivial, List.forall_mem_cons.mpr ⟨trivial, List.forall_mem_cons.mpr ⟨trivial, List.forall_mem_cons.mpr ⟨trivial, List.forall_mem_cons.mpr ⟨trivial, List.forall_mem_cons.mpr ⟨trivial, List.forall_mem_cons.mpr ⟨trivial, List.forall_mem_cons.mpr ⟨trivial, fun _ h => nomatch h⟩⟩⟩⟩⟩⟩⟩⟩⟩
theorem m_dec_57 : (mt_57.all fun r => decide (decode (m_b 57) r.1 = .ok (r.2.1, m_len r.2.1)) && m_jumpb r.1 r.2.1 r.2.2.1) = true := by decide +kernel
set_option maxRecDepth 20000 in
theorem m_wrd_57 : ∀ r ∈ mt_57, m_okw 57 r.1 r.2.1 r.2.2.1 r.2.2.2 := List.forall_mem_cons.mpr ⟨trivial, List.forall_mem_cons.mpr ⟨⟨_, rfl, (by decide), Or.inl mw_447⟩, List.forall_mem_cons.mpr ⟨trivial, List.forall_mem_cons.mpr ⟨trivial, List.forall_mem_cons.mpr ⟨trivial, List.forall_mem_cons.mpr ⟨trivial, List.forall_mem_cons.mpr ⟨trivial, List.forall_mem_cons.mpr ⟨trivial, List.forall_mem_cons.mpr ⟨trivial, List.forall_mem_cons.mpr ⟨trivial, List.forall_mem_cons.mpr ⟨trivial, List.forall_mem_cons.mpr ⟨trivial, List.forall_mem_cons.mpr ⟨trivial, fun _ h => nomatch h⟩⟩⟩⟩⟩⟩⟩⟩⟩⟩⟩⟩⟩
theorem m_dec_58 : (mt_58.all fun r => decide (decode (m_b 58) r.1 = .ok (r.2.1, m_len r.2.1)) && m_jumpb r.1 r.2.1 r.2.2.1) = true := by decide +kernel
set_option maxRecDepth 20000 in
theorem m_wrd_58 : ∀ r ∈ mt_58, m_okw 58 r.1 r.2.1 r.2.2.1 r.2.2.2 := List.forall_mem_cons.mpr ⟨trivial, List.forall_mem_cons.mpr ⟨⟨_, rfl, (by decide), Or.inl mw_447⟩, List.forall_mem_cons.mpr ⟨trivial, List.forall_mem_cons.mpr ⟨trivial, List.forall_mem_cons.mpr ⟨trivial, List.forall_mem_cons.mpr ⟨trivial, List.forall_mem_cons.mpr ⟨trivial, List.forall_mem_cons.mpr ⟨trivial, List.forall_mem_cons.mpr ⟨trivial, List.forall_mem_cons.mpr ⟨trivial, List.forall_mem_cons.mpr ⟨trivial, List.forall_mem_cons.mpr ⟨trivial, List.forall_mem_cons.mpr ⟨trivial, List.forall_mem_cons.mpr ⟨trivial, List.forall_mem_cons.mpr ⟨⟨_, rfl, (by decide), Or.inl mw_447⟩, List.forall_mem_cons.mpr ⟨trivial, List.forall_mem_cons.mpr ⟨trivial, List.forall_mem_cons.mpr ⟨trivial, List.forall_mem_cons.mpr ⟨trivial, List.forall_mem_cons.mpr ⟨trivial, List.forall_mem_cons.mpr ⟨trivial, List.forall_mem_cons.mpr ⟨trivial, List.forall_mem_cons.mpr ⟨trivial, List.forall_mem_cons.mpr ⟨trivial, List.forall_mem_cons.mpr ⟨trivial, List.forall_mem_cons.mpr ⟨trivial, List.forall_mem_cons.mpr ⟨trivial, fun _ h => nomatch h⟩⟩⟩⟩⟩⟩⟩⟩⟩⟩⟩⟩⟩⟩⟩⟩⟩⟩⟩⟩⟩⟩⟩⟩⟩⟩⟩
theorem m_dec_59 : (mt_59.all fun r => decide (decode (m_b 59) r.1 = .ok (r.2.1, m_len r.2.1)) && m_jumpb r.1 r.2.1 r.2.2.1) = true := by decide +kernel
set_option maxRecDepth 20000 in
theorem m_wrd_59 : ∀ r ∈ mt_59, m_okw 59 r.1 r.2.1 r.2.2.1 r.2.2.2 := List.forall_mem_cons.mpr ⟨trivial, List.forall_mem_cons.mpr ⟨trivial, List.forall_mem_cons.mpr ⟨⟨_, rfl, (by decide), Or.inl mw_453⟩, List.forall_mem_cons.mpr ⟨trivial, List.forall_mem_cons.mpr ⟨trivial, List.forall_mem_cons.mpr ⟨trivial, List.forall_mem_cons.mpr ⟨trivial, List.forall_mem_cons.mpr ⟨trivial, List.forall_mem_cons.mpr ⟨⟨_, rfl, (by decide), Or.inl mw_454⟩, List.forall_mem_cons.mpr ⟨trivial, List.forall_mem_cons.mpr ⟨trivial, List.forall_mem_cons.mpr ⟨trivial, List.forall_mem_cons.mpr ⟨trivial, List.forall_mem_cons.mpr ⟨⟨_, rfl, (by decide), Or.inl mw_455⟩, List.forall_mem_cons.mpr ⟨trivial, List.forall_mem_cons.mpr ⟨trivial, List.forall_mem_cons.mpr ⟨trivial, List.forall_mem_cons.mpr ⟨trivial, List.forall_mem_cons.mpr ⟨trivial, List.forall_mem_cons.mpr ⟨trivial, List.forall_mem_cons.mpr ⟨trivial, List.forall_mem_cons.mpr ⟨trivial, List.forall_mem_cons.mpr ⟨trivial, List.forall_mem_cons.mpr ⟨⟨_, rfl, (by decide), Or.inl mw_455⟩, List.forall_mem_cons.mpr ⟨trivial, List.forall_mem_cons.mpr ⟨trivial, List.forall_mem_cons.mpr ⟨trivial, List.forall_mem_cons.mpr ⟨trivial, List.forall_mem_cons.mpr ⟨trivial, List.forall_mem_cons.mpr ⟨trivial, List.forall_mem_cons.mpr ⟨trivial, List.forall_mem_cons.mpr ⟨trivial, List.forall_mem_cons.mpr ⟨trivial, List.forall_mem_cons.mpr ⟨trivial, List.forall_mem_cons.mpr ⟨trivial, List.forall_mem_cons.mpr ⟨trivial, List.forall_mem_cons.mpr ⟨trivial, List.forall_mem_cons.mpr ⟨trivial, fun _ h => nomatch h⟩⟩⟩⟩⟩⟩⟩⟩⟩⟩⟩⟩⟩⟩⟩⟩⟩⟩⟩⟩⟩⟩⟩⟩⟩⟩⟩⟩⟩⟩⟩⟩⟩⟩⟩⟩⟩⟩
theorem m_dec_60 : (mt_60.all fun r => decide (decode (m_b 60) r.1 = .ok (r.2.1, m_len r.2.1)) && m_jumpb r.1 r.2.1 r.2.2.1) = true := by decide +kernel
set_option maxRecDepth 20000 in
theorem m_wrd_60 : ∀ r ∈ mt_60, m_okw 60 r.1 r.2.1 r.2.2.1 r.2.2.2 := List.forall_mem_cons.mpr ⟨trivial, List.forall_mem_cons.mpr ⟨trivial, List.forall_mem_cons.mpr ⟨trivial, List.forall_mem_cons.mpr ⟨trivial, List.forall_mem_cons.mpr ⟨trivial, List.forall_mem_cons.mpr ⟨trivial, List.forall_mem_cons.mpr ⟨⟨_, rfl, (by decide), Or.inl mw_448⟩, List.forall_mem_cons.mpr ⟨trivial, List.forall_mem_cons.mpr ⟨trivial, List.forall_mem_cons.mpr ⟨trivial, List.forall_mem_cons.mpr ⟨trivial, List.forall_mem_cons.mpr ⟨trivial, List.forall_mem_cons.mpr ⟨trivial, List.forall_mem_cons.mpr ⟨⟨m_fact_59, (Or.inl mw_546), mw_548, mwp_19⟩, List.forall_mem_cons.mpr ⟨trivial, List.forall_mem_cons.mpr ⟨trivial, List.forall_mem_cons.mpr ⟨trivial, List.forall_mem_cons.mpr ⟨trivial, List.forall_mem_cons.mpr ⟨trivial, List.forall_mem_cons.mpr ⟨trivial, List.forall_mem_cons.mpr ⟨trivial, List.forall_mem_cons.mpr ⟨trivial, List.forall_mem_cons.mpr ⟨trivial, List.forall_mem_cons.mpr ⟨trivial, List.forall_mem_cons.mpr ⟨trivial, fun _ h => nomatch h⟩⟩⟩⟩⟩⟩⟩⟩⟩⟩⟩⟩⟩⟩⟩⟩⟩⟩⟩⟩⟩⟩⟩⟩⟩
theorem m_dec_61 : (mt_61.all fun r => decide (decode (m_b 61) r.1 = .ok (r.2.1, m_len r.2.1)) && m_jumpb r.1 r.2.1 r.2.2.1) = true := by decide +kernel
set_option maxRecDepth 20000 in
theorem m_wrd_61 : ∀ r ∈ mt_61, m_okw 61 r.1 r.2.1 r.2.2.1 r.2.2.2 := List.forall_mem_cons.mpr ⟨trivial, List.forall_mem_cons.mpr ⟨trivial, List.forall_mem_cons.mpr ⟨trivial, List.forall_mem_cons.mpr ⟨trivial, List.forall_mem_cons.mpr ⟨trivial, List.forall_mem_cons.mpr ⟨trivial, List.forall_mem_cons.mpr ⟨trivial, List.forall_mem_cons.mpr ⟨⟨m_fact_60, (Or.inl mw_542), mw_544, mwp_18⟩, List.forall_mem_cons.mpr ⟨trivial, List.forall_mem_cons.mpr ⟨⟨_, rfl, (by decide), Or.inl mw_446⟩, List.forall_mem_cons.mpr ⟨trivial, List.forall_mem_cons.mpr ⟨trivial, List.forall_mem_cons.mpr ⟨trivial, List.forall_mem_cons.mpr ⟨trivial, List.forall_mem_cons.mpr ⟨trivial, List.forall_mem_cons.mpr ⟨trivial, List.forall_mem_cons.mpr ⟨trivial, List.forall_mem_cons.mpr ⟨trivial, List.forall_mem_cons.mpr ⟨trivial, List.forall_mem_cons.mpr ⟨trivial, List.forall_mem_cons.mpr ⟨trivial, List.forall_mem_cons.mpr ⟨⟨m_fact_57, (Or.inl mw_510), mw_512, mwp_12⟩, List.forall_mem_cons.mpr ⟨trivial, List.forall_mem_cons.mpr ⟨trivial, List.forall_mem_cons.mpr ⟨trivial, List.forall_mem_cons.mpr ⟨trivial, List.forall_mem_cons.mpr ⟨trivial, List.forall_mem_cons.mpr ⟨⟨m_fact_60, (Or.inl mw_542), mw_544, mwp_18⟩, List.forall_mem_cons.mpr ⟨trivial, List.forall_mem_cons.mpr ⟨trivial, List.forall_mem_cons.mpr ⟨trivial, List.forall_mem_cons.mpr ⟨trivial, List.forall_mem_cons.mpr ⟨trivial, fun _ h => nomatch h⟩⟩⟩⟩⟩⟩⟩⟩⟩⟩⟩⟩⟩⟩⟩⟩⟩⟩⟩⟩⟩⟩⟩⟩⟩⟩⟩⟩⟩⟩⟩⟩⟩
theorem m_dec_62_0 : (mt_62_0.all fun r => decide (decode (m_b 62) r.1 = .ok (r.2.1, m_len r.2.1)) && m_jumpb r.1 r.2.1 r.2.2.1) = true := by decide +kernel
set_option maxRecDepth 20000 in
theorem m_wrd_62_0 : ∀ r ∈ mt_62_0, m_okw 62 r.1 r.2.1 r.2.2.1 r.2.2.2 := List.forall_mem_cons.mpr ⟨trivial, List.forall_mem_cons.mpr ⟨trivial, List.forall_mem_cons.mpr ⟨trivial, List.forall_mem_cons.mpr ⟨trivial, List.forall_mem_cons.mpr ⟨trivial, List.forall_mem_cons.mpr ⟨trivial, List.forall_mem_cons.mpr ⟨⟨_, rfl, (by decide), Or.inl mw_457⟩, List.forall_mem_cons.mpr ⟨trivial, List.forall_mem_cons.mpr ⟨trivial, List.forall_mem_cons.mpr ⟨trivial, List.forall_mem_cons.mpr ⟨trivial, List.forall_mem_cons.mpr ⟨trivial, List.forall_mem_cons.mpr ⟨trivial, List.forall_mem_cons.mpr ⟨trivial, List.forall_mem_cons.mpr ⟨trivial, List.forall_mem_cons.mpr ⟨trivial, List.forall_mem_cons.mpr ⟨trivial, List.forall_mem_cons.mpr ⟨trivial, List.forall_mem_cons.mpr ⟨trivial, List.forall_mem_cons.mpr ⟨trivial, List.forall_mem_cons.mpr ⟨trivial, List.forall_mem_cons.mpr ⟨trivial, List.forall_mem_cons.mpr ⟨trivial, List.forall_mem_cons.mpr ⟨trivial, List.forall_mem_cons.mpr ⟨trivial, List.forall_mem_cons.mpr ⟨trivial, List.forall_mem_cons.mpr ⟨trivial, List.forall_mem_cons.mpr ⟨trivial, List.forall_mem_cons.mpr ⟨trivial, List.forall_mem_cons.mpr ⟨trivial, List.forall_mem_cons.mpr ⟨trivial, List.forall_mem_cons.mpr ⟨trivial, List.forall_mem_cons.mpr ⟨trivial, List.forall_mem_cons.mpr ⟨trivial, List.forall_mem_cons.mpr ⟨trivial, List.forall_mem_cons.mpr ⟨trivial, List.forall_mem_cons.mpr ⟨trivial, List.forall_mem_cons.mpr ⟨trivial, List.forall_mem_cons.mpr ⟨trivial, List.forall_mem_cons.mpr ⟨trivial, List.forall_mem_cons.mpr ⟨trivial, List.forall_mem_cons.mpr ⟨trivial, List.forall_mem_cons.mpr ⟨trivial, List.forall_mem_cons.mpr ⟨trivial, List.forall_mem_cons.mpr ⟨trivial, List.forall_mem_cons.mpr ⟨⟨_, rfl, (by decide), Or.inl mw_457⟩, List.forall_mem_cons.mpr ⟨trivial, List.forall_mem_cons.mpr ⟨trivial, List.forall_mem_cons.mpr ⟨trivial, List.forall_mem_cons.mpr ⟨trivial, List.forall_mem_cons.mpr ⟨trivial, List.forall_mem_cons.mpr ⟨trivial, List.forall_mem_cons.mpr ⟨trivial, List.forall_mem_cons.mpr ⟨trivial, List.forall_mem_cons.mpr ⟨trivial, List.forall_mem_cons.mpr ⟨trivial, List.forall_mem_cons.mpr ⟨trivial, List.forall_mem_cons.mpr ⟨trivial, List.forall_mem_cons.mpr ⟨trivial, List.forall_mem_cons.mpr ⟨trivial, fun _ h => nomatch h⟩⟩⟩⟩⟩⟩⟩⟩⟩⟩⟩⟩⟩⟩⟩⟩⟩⟩⟩⟩⟩⟩⟩⟩⟩⟩⟩⟩⟩⟩⟩⟩⟩⟩⟩⟩⟩⟩⟩⟩⟩⟩⟩⟩⟩⟩⟩⟩⟩⟩⟩⟩⟩⟩⟩⟩⟩⟩⟩⟩
theorem m_dec_62_1 : (mt_62_1.all fun r => decide (decode (m_b 62) r.1 = .ok (r.2.1, m_len r.2.1)) && m_jumpb r.1 r.2.1 r.2.2.1) = true := by decide +kernel
set_option maxRecDepth 20000 in
theorem m_wrd_62_1 : ∀ r ∈ mt_62_1, m_okw 62 r.1 r.2.1 r.2.2.1 r.2.2.2 := List.forall_mem_cons.mpr ⟨trivial, List.forall_mem_cons.mpr ⟨trivial, List.forall_mem_cons.mpr ⟨⟨m_fact_61, (Or.inl mw_538), mw_540, mwp_17⟩, List.forall_mem_cons.mpr ⟨trivial, List.forall_mem_cons.mpr ⟨trivial, List.forall_mem_cons.mpr ⟨trivial, List.forall_mem_cons.mpr ⟨trivial, List.forall_mem_cons.mpr ⟨trivial, List.forall_mem_cons.mpr ⟨trivial, List.forall_mem_cons.mpr ⟨trivial, List.forall_mem_cons.mpr ⟨trivial, List.forall_mem_cons.mpr ⟨⟨_, rfl, (by decide), Or.inl mw_457⟩, List.forall_mem_cons.mpr ⟨trivial, List.forall_mem_cons.mpr ⟨trivial, List.forall_mem_cons.mpr ⟨trivial, List.forall_mem_cons.mpr ⟨trivial, List.forall_mem_cons.mpr ⟨trivial, List.forall_mem_cons.mpr ⟨trivial, List.forall_mem_cons.mpr ⟨trivial, List.forall_mem_cons.mpr ⟨trivial, List.forall_mem_cons.mpr ⟨trivial, List.forall_mem_cons.mpr ⟨trivial, List.forall_mem_cons.mpr ⟨trivial, List.forall_mem_cons.mpr ⟨trivial, fun _ h => nomatch h⟩⟩⟩⟩⟩⟩⟩⟩⟩⟩⟩⟩⟩⟩⟩⟩⟩⟩⟩⟩⟩⟩⟩⟩
theorem m_dec_62 : (mt_62.all fun r => decide (decode (m_b 62) r.1 = .ok (r.2.1, m_len r.2.1)) && m_jumpb r.1 r.2.1 r.2.2.1) = true := m_all_app m_dec_62_0 (m_dec_62_1)
theorem m_wrd_62 : ∀ r ∈ mt_62, m_okw 62 r.1 r.2.1 r.2.2.1 r.2.2.2 := List.forall_mem_append.mpr ⟨m_wrd_62_0, m_wrd_62_1⟩
theorem m_dec_63 : (mt_63.all fun r => decide (decode (m_b 63) r.1 = .ok (r.2.1, m_len r.2.1)) && m_jumpb r.1 r.2.1 r.2.2.1) = true := by decide +kernel
set_option maxRecDepth 20000 in
theorem m_wrd_63 : ∀ r ∈ mt_63, m_okw 63 r.1 r.2.1 r.2.2.1 r.2.2.2 := List.forall_mem_cons.mpr ⟨trivial, List.forall_mem_cons.mpr ⟨trivial, List.forall_mem_cons.mpr ⟨trivial, List.forall_mem_cons.mpr ⟨⟨m_fact_62, (Or.inl mw_534), mw_536, mwp_16⟩, List.forall_mem_cons.mpr ⟨trivial, List.forall_mem_cons.mpr ⟨⟨_, rfl, (by decide), Or.inl mw_457⟩, List.forall_mem_cons.mpr ⟨trivial, List.forall_mem_cons.mpr ⟨trivial, List.forall_mem_cons.mpr ⟨trivial, List.forall_mem_cons.mpr ⟨trivial, List.forall_mem_cons.mpr ⟨trivial, List.forall_mem_cons.mpr ⟨trivial, List.forall_mem_cons.mpr ⟨trivial, List.forall_mem_cons.mpr ⟨trivial, List.forall_mem_cons.mpr ⟨trivial, List.forall_mem_cons.mpr ⟨trivial, List.forall_mem_cons.mpr ⟨trivial, List.forall_mem_cons.mpr ⟨trivial, List.forall_mem_cons.mpr ⟨trivial, List.forall_mem_cons.mpr ⟨trivial, fun _ h => nomatch h⟩⟩⟩⟩⟩⟩⟩⟩⟩⟩⟩⟩⟩⟩⟩⟩⟩⟩⟩⟩
theorem m_dec_64_0 : (mt_64_0.all fun r => decide (decode (m_b 64) r.1 = .ok (r.2.1, m_len r.2.1)) && m_jumpb r.1 r.2.1 r.2.2.1) = true := by decide +kernel
set_option maxRecDepth 20000 in
theorem m_wrd_64_0 : ∀ r ∈ mt_64_0, m_okw 64 r.1 r.2.1 r.2.2.1 r.2.2.2 := List.forall_mem_cons.mpr ⟨trivial, List.forall_mem_cons.mpr ⟨⟨_, rfl, (by decide), Or.inl mw_457⟩, List.forall_mem_cons.mpr ⟨trivial, List.forall_mem_cons.mpr ⟨trivial, List.forall_mem_cons.mpr ⟨trivial, List.forall_mem_cons.mpr ⟨trivial, List.forall_mem_cons.mpr ⟨trivial, List.forall_mem_cons.mpr ⟨trivial, List.forall_mem_cons.mpr ⟨trivial, List.forall_mem_cons.mpr ⟨trivial, List.forall_mem_cons.mpr ⟨trivial, List.forall_mem_cons.mpr ⟨trivial, List.forall_mem_cons.mpr ⟨⟨_, rfl, (by decide), Or.inl mw_455⟩, List.forall_mem_cons.mpr ⟨trivial, List.forall_mem_cons.mpr ⟨trivial, List.forall_mem_cons.mpr ⟨trivial, List.forall_mem_cons.mpr ⟨trivial, List.forall_mem_cons.mpr ⟨trivial, List.forall_mem_cons.mpr ⟨trivial, List.forall_mem_cons.mpr ⟨trivial, List.forall_mem_cons.mpr ⟨trivial, List.forall_mem_cons.mpr ⟨trivial, List.forall_mem_cons.mpr ⟨trivial, List.forall_mem_cons.mpr ⟨trivial, List.forall_mem_cons.mpr ⟨trivial, List.forall_mem_cons.mpr ⟨trivial, List.forall_mem_cons.mpr ⟨trivial, List.forall_mem_cons.mpr ⟨trivial, List.forall_mem_cons.mpr ⟨trivial, List.forall_mem_cons.mpr ⟨trivial, List.forall_mem_cons.mpr ⟨trivial, List.forall_mem_cons.mpr ⟨trivial, List.forall_mem_cons.mpr ⟨⟨_, rfl, (by decide), Or.inl mw_457⟩, List.forall_mem_cons.mpr ⟨trivial, List.forall_mem_cons.mpr ⟨trivial, List.forall_mem_cons.mpr ⟨trivial, List.forall_mem_cons.mpr ⟨trivial, List.forall_mem_cons.mpr ⟨trivial, List.forall_mem_cons.mpr ⟨trivial, List.forall_mem_cons.mpr ⟨trivial, List.forall_mem_cons.mpr ⟨trivial, List.forall_mem_cons.mpr ⟨trivial, List.forall_mem_cons.mpr ⟨trivial, List.forall_mem_cons.mpr ⟨trivial, List.forall_mem_cons.mpr ⟨trivial, List.forall_mem_cons.mpr ⟨trivial, List.forall_mem_cons.mpr ⟨trivial, List.forall_mem_cons.mpr ⟨⟨m_fact_61, (Or.inl mw_538), mw_540, mwp_17⟩, List.forall_mem_cons.mpr ⟨trivial, List.forall_mem_cons.mpr ⟨trivial, List.forall_mem_cons.mpr ⟨trivial, List.forall_mem_cons.mpr ⟨trivial, List.forall_mem_cons.mpr ⟨trivial, List.forall_mem_cons.mpr ⟨trivial, List.forall_mem_cons.mpr ⟨trivial, List.forall_mem_cons.mpr ⟨trivial, List.forall_mem_cons.mpr ⟨trivial, List.forall_mem_cons.mpr ⟨trivial, List.forall_mem_cons.mpr ⟨⟨_, rfl, (by decide), Or.inl mw_455⟩, List.forall_mem_cons.mpr ⟨trivial, fun _ h => nomatch h⟩⟩⟩⟩⟩⟩⟩⟩⟩⟩⟩⟩⟩⟩⟩⟩⟩⟩⟩⟩⟩⟩⟩⟩⟩⟩⟩⟩⟩⟩⟩⟩⟩⟩⟩⟩⟩⟩⟩⟩⟩⟩⟩⟩⟩⟩⟩⟩⟩⟩⟩⟩⟩⟩⟩⟩⟩⟩⟩⟩
theorem m_dec_64_1 : (mt_64_1.all fun r => decide (decode (m_b 64) r.1 = .ok (r.2.1, m_len r.2.1)) && m_jumpb r.1 r.2.1 r.2.2.1) = true := by decide +kernel
set_option maxRecDepth 20000 in
theorem m_wrd_64_1 : ∀ r ∈ mt_64_1, m_okw 64 r.1 r.2.1 r.2.2.1 r.2.2.2 := List.forall_mem_cons.mpr ⟨trivial, List.forall_mem_cons.mpr ⟨trivial, List.forall_mem_cons.mpr ⟨trivial, List.forall_mem_cons.mpr ⟨trivial, List.forall_mem_cons.mpr ⟨trivial, List.forall_mem_cons.mpr ⟨trivial, List.forall_mem_cons.mpr ⟨trivial, List.forall_mem_cons.mpr ⟨trivial, List.forall_mem_cons.mpr ⟨trivial, List.forall_mem_cons.mpr ⟨trivial, List.forall_mem_cons.mpr ⟨trivial, List.forall_mem_cons.mpr ⟨⟨_, rfl, (by decide), Or.inl mw_454⟩, List.forall_mem_cons.mpr ⟨trivial, List.forall_mem_cons.mpr ⟨trivial, List.forall_mem_cons.mpr ⟨trivial, List.forall_mem_cons.mpr ⟨trivial, fun _ h => nomatch h⟩⟩⟩⟩⟩⟩⟩⟩⟩⟩⟩⟩⟩⟩⟩⟩
theorem m_dec_64 : (mt_64.all fun r => decide (decode (m_b 64) r.1 = .ok (r.2.1, m_len r.2.1)) && m_jumpb r.1 r.2.1 r.2.2.1) = true := m_all_app m_dec_64_0 (m_dec_64_1)
theorem m_wrd_64 : ∀ r ∈ mt_64, m_okw 64 r.1 r.2.1 r.2.2.1 r.2.2.2 := List.forall_mem_append.mpr ⟨m_wrd_64_0, m_wrd_64_1⟩
theorem m_dec_65 : (mt_65.all fun r => decide (decode (m_b 65) r.1 = .ok (r.2.1, m_len r.2.1)) && m_jumpb r.1 r.2.1 r.2.2.1) = true := by decide +kernel
set_option maxRecDepth 20000 in
theorem m_wrd_65 : ∀ r ∈ mt_65, m_okw 65 r.1 r.2.1 r.2.2.1 r.2.2.2 := List.forall_mem_cons.mpr ⟨trivial, List.forall_mem_cons.mpr ⟨trivial, List.forall_mem_cons.mpr ⟨trivial, List.forall_mem_cons.mpr ⟨trivial, List.forall_mem_cons.mpr ⟨trivial, List.forall_mem_cons.mpr ⟨trivial, List.forall_mem_cons.mpr ⟨trivial, List.forall_mem_cons.mpr ⟨trivial, List.forall_mem_cons.mpr ⟨trivial, List.forall_mem_cons.mpr ⟨trivial, List.forall_mem_cons.mpr ⟨trivial, List.forall_mem_cons.mpr ⟨trivial, List.forall_mem_cons.mpr ⟨trivial, List.forall_mem_cons.mpr ⟨trivial, List.forall_mem_cons.mpr ⟨⟨_, rfl, (by decide), Or.inl mw_446⟩, List.forall_mem_cons.mpr ⟨trivial, List.forall_mem_cons.mpr ⟨trivial, List.forall_mem_cons.mpr ⟨trivial, List.forall_mem_cons.mpr ⟨trivial, List.forall_mem_cons.mpr ⟨⟨_, rfl, (by decide), Or.inl mw_445⟩, List.forall_mem_cons.mpr ⟨trivial, List.forall_mem_cons.mpr ⟨trivial, List.forall_mem_cons.mpr ⟨trivial, List.forall_mem_cons.mpr ⟨trivial, List.forall_mem_cons.mpr ⟨⟨_, rfl, (by decide), Or.inl ⟨rfl, mw_443⟩⟩, List.forall_mem_cons.mpr ⟨trivial, List.forall_mem_cons.mpr ⟨⟨_, rfl, (by decide), Or.inl mw_443⟩, List.forall_mem_cons.mpr ⟨trivial, List.forall_mem_cons.mpr ⟨trivial, List.forall_mem_cons.mpr ⟨trivial, List.forall_mem_cons.mpr ⟨trivial, List.forall_mem_cons.mpr ⟨⟨_, rfl, (by decide), Or.inl mw_446⟩, List.forall_mem_cons.mpr ⟨trivial, List.forall_mem_cons.mpr ⟨trivial, List.forall_mem_cons.mpr ⟨trivial, List.forall_mem_cons.mpr ⟨trivial, List.forall_mem_cons.mpr ⟨trivial, List.forall_mem_cons.mpr ⟨trivial, List.forall_mem_cons.mpr ⟨trivial, List.forall_mem_cons.mpr ⟨trivial, List.forall_mem_cons.mpr ⟨trivial, List.forall_mem_cons.mpr ⟨trivial, List.forall_mem_cons.mpr ⟨trivial, List.forall_mem_cons.mpr ⟨⟨_, rfl, (by decide), Or.inl mw_446⟩, List.forall_mem_cons.mpr ⟨trivial, List.forall_mem_cons.mpr ⟨trivial, List.forall_mem_cons.mpr ⟨trivial, List.forall_mem_cons.mpr ⟨trivial, List.forall_mem_cons.mpr ⟨trivial, List.forall_mem_cons.mpr ⟨trivial, List.forall_mem_cons.mpr ⟨trivial, List.forall_mem_cons.mpr ⟨trivial, List.forall_mem_cons.mpr ⟨trivial, List.forall_mem_cons.mpr ⟨trivial, List.forall_mem_cons.mpr ⟨trivial, List.forall_mem_cons.mpr ⟨trivial, List.forall_mem_cons.mpr ⟨trivial, fun _ h => nomatch h⟩⟩⟩⟩⟩⟩⟩⟩⟩⟩⟩⟩⟩⟩⟩⟩⟩⟩⟩⟩⟩⟩⟩⟩⟩⟩⟩⟩⟩⟩⟩⟩⟩⟩⟩⟩⟩⟩⟩⟩⟩⟩⟩⟩⟩⟩⟩⟩⟩⟩⟩⟩⟩⟩⟩⟩⟩
theorem m_dec_66_0 : (mt_66_0.all fun r => decide (decode (m_b 66) r.1 = .ok (r.2.1, m_len r.2.1)) && m_jumpb r.1 r.2.1 r.2.2.1) = true := by decide +kernel
set_option maxRecDepth 20000 in
theorem m_wrd_66_0 : ∀ r ∈ mt_66_0, m_okw 66 r.1 r.2.1 r.2.2.1 r.2.2.2 := List.forall_mem_cons.mpr ⟨trivial, List.forall_mem_cons.mpr ⟨trivial, List.forall_mem_cons.mpr ⟨trivial, List.forall_mem_cons.mpr ⟨trivial, List.forall_mem_cons.mpr ⟨⟨m_fact_55, (Or.inl mw_502), mw_504, mwp_10⟩, List.forall_mem_cons.mpr ⟨trivial, List.forall_mem_cons.mpr ⟨trivial, List.forall_mem_cons.mpr ⟨trivial, List.forall_mem_cons.mpr ⟨⟨_, rfl, (by decide), Or.inl mw_444⟩, List.forall_mem_cons.mpr ⟨trivial, List.forall_mem_cons.mpr ⟨trivial, List.forall_mem_cons.mpr ⟨trivial, List.forall_mem_cons.mpr ⟨trivial, List.forall_mem_cons.mpr ⟨trivial, List.forall_mem_cons.mpr ⟨trivial, List.forall_mem_cons.mpr ⟨trivial, List.forall_mem_cons.mpr ⟨trivial, List.forall_mem_cons.mpr ⟨trivial, List.forall_mem_cons.mpr ⟨trivial, List.forall_mem_cons.mpr ⟨⟨_, rfl, (by decide), Or.inl mw_445⟩, List.forall_mem_cons.mpr ⟨trivial, List.forall_mem_cons.mpr ⟨trivial, List.forall_mem_cons.mpr ⟨trivial, List.forall_mem_cons.mpr ⟨trivial, List.forall_mem_cons.mpr ⟨trivial, List.forall_mem_cons.mpr ⟨⟨_, rfl, (by decide), Or.inl ⟨rfl, mw_443⟩⟩, List.forall_mem_cons.mpr ⟨trivial, List.forall_mem_cons.mpr ⟨trivial, List.forall_mem_cons.mpr ⟨trivial, List.forall_mem_cons.mpr ⟨trivial, List.forall_mem_cons.mpr ⟨trivial, List.forall_mem_cons.mpr ⟨trivial, List.forall_mem_cons.mpr ⟨⟨_, rfl, (by decide), Or.inl mw_443⟩, List.forall_mem_cons.mpr ⟨trivial, List.forall_mem_cons.mpr ⟨trivial, List.forall_mem_cons.mpr ⟨trivial, List.forall_mem_cons.mpr ⟨trivial, List.forall_mem_cons.mpr ⟨trivial, List.forall_mem_cons.mpr ⟨trivial, List.forall_mem_cons.mpr ⟨⟨m_fact_57, (Or.inl mw_510), mw_512, mwp_12⟩, List.forall_mem_cons.mpr ⟨trivial, List.forall_mem_cons.mpr ⟨trivial, List.forall_mem_cons.mpr ⟨trivial, List.forall_mem_cons.mpr ⟨trivial, List.forall_mem_cons.mpr ⟨⟨_, rfl, (by decide), Or.inl ⟨rfl, mw_443⟩⟩, List.forall_mem_cons.mpr ⟨trivial, List.forall_mem_cons.mpr ⟨trivial, List.forall_mem_cons.mpr ⟨trivial, List.forall_mem_cons.mpr ⟨⟨_, rfl, (by decide), Or.inl mw_443⟩, List.forall_mem_cons.mpr ⟨trivial, List.forall_mem_cons.mpr ⟨trivial, List.forall_mem_cons.mpr ⟨trivial, List.forall_mem_cons.mpr ⟨trivial, List.forall_mem_cons.mpr ⟨trivial, List.forall_mem_cons.mpr ⟨trivial, List.forall_mem_cons.mpr ⟨trivial, List.forall_mem_cons.mpr ⟨trivial, List.forall_mem_cons.mpr ⟨trivial, List.forall_mem_cons.mpr ⟨trivial, List.forall_mem_cons.mpr ⟨trivial, fun _ h => nomatch h⟩⟩⟩⟩⟩⟩⟩⟩⟩⟩⟩⟩⟩⟩⟩⟩⟩⟩⟩⟩⟩⟩⟩⟩⟩⟩⟩⟩⟩⟩⟩⟩⟩⟩⟩⟩⟩⟩⟩⟩⟩⟩⟩⟩⟩⟩⟩⟩⟩⟩⟩⟩⟩⟩⟩⟩⟩⟩⟩⟩
theorem m_dec_66_1 : (mt_66_1.all fun r => decide (decode (m_b 66) r.1 = .ok (r.2.1, m_len r.2.1)) && m_jumpb r.1 r.2.1 r.2.2.1) = true := by decide +kernel
set_option maxRecDepth 20000 in
theorem m_wrd_66_1 : ∀ r ∈ mt_66_1, m_okw 66 r.1 r.2.1 r.2.2.1 r.2.2.2 := List.forall_mem_cons.mpr ⟨trivial, List.forall_mem_cons.mpr ⟨trivial, List.forall_mem_cons.mpr ⟨⟨m_fact_58, (Or.inl mw_514), mw_516, mwp_13⟩, List.forall_mem_cons.mpr ⟨trivial, List.forall_mem_cons.mpr ⟨trivial, List.forall_mem_cons.mpr ⟨trivial, List.forall_mem_cons.mpr ⟨trivial, List.forall_mem_cons.mpr ⟨⟨_, rfl, (by decide), Or.inl mw_445⟩, List.forall_mem_cons.mpr ⟨trivial, List.forall_mem_cons.mpr ⟨trivial, List.forall_mem_cons.mpr ⟨⟨_, rfl, (by decide), Or.inl ⟨rfl, mw_445⟩⟩, List.forall_mem_cons.mpr ⟨trivial, List.forall_mem_cons.mpr ⟨⟨_, rfl, (by decide), Or.inl mw_445⟩, List.forall_mem_cons.mpr ⟨trivial, fun _ h => nomatch h⟩⟩⟩⟩⟩⟩⟩⟩⟩⟩⟩⟩⟩⟩
theorem m_dec_66 : (mt_66.all fun r => decide (decode (m_b 66) r.1 = .ok (r.2.1, m_len r.2.1)) && m_jumpb r.1 r.2.1 r.2.2.1) = true := m_all_app m_dec_66_0 (m_dec_66_1)
theorem m_wrd_66 : ∀ r ∈ mt_66, m_okw 66 r.1 r.2.1 r.2.2.1 r.2.2.2 := List.forall_mem_append.mpr ⟨m_wrd_66_0, m_wrd_66_1⟩
theorem m_dec_67 : (mt_67.all fun r => decide (decode (m_b 67) r.1 = .ok (r.2.1, m_len r.2.1)) && m_jumpb r.1 r.2.1 r.2.2.1) = true := by decide +kernel
set_option maxRecDepth 20000 in
theorem m_wrd_67 : ∀ r ∈ mt_67, m_okw 67 r.1 r.2.1 r.2.2.1 r.2.2.2 := List.forall_mem_cons.mpr ⟨trivial, List.forall_mem_cons.mpr ⟨trivial, List.forall_mem_cons.mpr ⟨⟨_, rfl, (by decide), Or.inl ⟨rfl, mw_443⟩⟩, List.forall_mem_cons.mpr ⟨trivial, List.forall_mem_cons.mpr ⟨⟨_, rfl, (by decide), Or.inl mw_444⟩, List.forall_mem_cons.mpr ⟨trivial, fun _ h => nomatch h⟩⟩⟩⟩⟩⟩
theorem m_dec_68 : (mt_68.all fun r => decide (decode (m_b 68) r.1 = .ok (r.2.1, m_len r.2.1)) && m_jumpb r.1 r.2.1 r.2.2.1) = true := by decide +kernel
set_option maxRecDepth 20000 in
theorem m_wrd_68 : ∀ r ∈ mt_68, m_okw 68 r.1 r.2.1 r.2.2.1 r.2.2.2 := List.forall_mem_cons.mpr ⟨trivial, List.forall_mem_cons.mpr ⟨trivial, List.forall_mem_cons.mpr ⟨trivial, List.forall_mem_cons.mpr ⟨⟨m_fact_55, (Or.inl mw_502), mw_504, mwp_10⟩, List.forall_mem_cons.mpr ⟨trivial, List.forall_mem_cons.mpr ⟨trivial, List.forall_mem_cons.mpr ⟨trivial, List.forall_mem_cons.mpr ⟨⟨_, rfl, (by decide), Or.inl mw_444⟩, List.forall_mem_cons.mpr ⟨trivial, List.forall_mem_cons.mpr ⟨trivial, List.forall_mem_cons.mpr ⟨trivial, List.forall_mem_cons.mpr ⟨trivial, List.forall_mem_cons.mpr ⟨trivial, List.forall_mem_cons.mpr ⟨trivial, List.forall_mem_cons.mpr ⟨trivial, List.forall_mem_cons.mpr ⟨⟨_, rfl, (by decide), Or.inl mw_448⟩, List.forall_mem_cons.mpr ⟨trivial, List.forall_mem_cons.mpr ⟨trivial, List.forall_mem_cons.mpr ⟨trivial, List.forall_mem_cons.mpr ⟨trivial, List.forall_mem_cons.mpr ⟨trivial, List.forall_mem_cons.mpr ⟨trivial, fun _ h => nomatch h⟩⟩⟩⟩⟩⟩⟩⟩⟩⟩⟩⟩⟩⟩⟩⟩⟩⟩⟩⟩⟩⟩
theorem m_dec_69_0 : (mt_69_0.all fun r => decide (decode (m_b 69) r.1 = .ok (r.2.1, m_len r.2.1)) && m_jumpb r.1 r.2.1 r.2.2.1) = true := by decide +kernel
set_option maxRecDepth 20000 in
theorem m_wrd_69_0 : ∀ r ∈ mt_69_0, m_okw 69 r.1 r.2.1 r.2.2.1 r.2.2.2 := List.forall_mem_cons.mpr ⟨trivial, List.forall_mem_cons.mpr ⟨trivial, List.forall_mem_cons.mpr ⟨trivial, List.forall_mem_cons.mpr ⟨trivial, List.forall_mem_cons.mpr ⟨trivial, List.forall_mem_cons.mpr ⟨⟨m_fact_68, (Or.inl mw_526), mw_528, mwp_14⟩, List.forall_mem_cons.mpr ⟨⟨_, rfl, (by decide), Or.inl ⟨rfl, mw_443⟩⟩, List.forall_mem_cons.mpr ⟨trivial, List.forall_mem_cons.mpr ⟨⟨_, rfl, (by decide), Or.inl mw_443⟩, List.forall_mem_cons.mpr ⟨trivial, List.forall_mem_cons.mpr ⟨trivial, List.forall_mem_cons.mpr ⟨trivial, List.forall_mem_cons.mpr ⟨trivial, List.forall_mem_cons.mpr ⟨trivial, List.forall_mem_cons.mpr ⟨trivial, List.forall_mem_cons.mpr ⟨trivial, List.forall_mem_cons.mpr ⟨⟨m_fact_63, (Or.inl mw_530), mw_532, mwp_15⟩, List.forall_mem_cons.mpr ⟨trivial, List.forall_mem_cons.mpr ⟨trivial, List.forall_mem_cons.mpr ⟨trivial, List.forall_mem_cons.mpr ⟨trivial, List.forall_mem_cons.mpr ⟨trivial, List.forall_mem_cons.mpr ⟨⟨_, rfl, (by decide), Or.inl mw_448⟩, List.forall_mem_cons.mpr ⟨trivial, List.forall_mem_cons.mpr ⟨trivial, List.forall_mem_cons.mpr ⟨trivial, List.forall_mem_cons.mpr ⟨trivial, List.forall_mem_cons.mpr ⟨trivial, List.forall_mem_cons.mpr ⟨⟨m_fact_64, (Or.inl mw_550), mw_552, mwp_20⟩, List.forall_mem_cons.mpr ⟨trivial, List.forall_mem_cons.mpr ⟨⟨_, rfl, (by decide), Or.inl mw_450⟩, List.forall_mem_cons.mpr ⟨trivial, List.forall_mem_cons.mpr ⟨trivial, List.forall_mem_cons.mpr ⟨trivial, List.forall_mem_cons.mpr ⟨trivial, List.forall_mem_cons.mpr ⟨⟨_, rfl, (by decide), Or.inl mw_449⟩, List.forall_mem_cons.mpr ⟨trivial, List.forall_mem_cons.mpr ⟨trivial, List.forall_mem_cons.mpr ⟨trivial, List.forall_mem_cons.mpr ⟨trivial, List.forall_mem_cons.mpr ⟨⟨_, rfl, (by decide), Or.inl mw_451⟩, List.forall_mem_cons.mpr ⟨trivial, List.forall_mem_cons.mpr ⟨trivial, List.forall_mem_cons.mpr ⟨trivial, List.forall_mem_cons.mpr ⟨trivial, List.forall_mem_cons.mpr ⟨⟨_, rfl, (by decide), Or.inl mw_453⟩, List.forall_mem_cons.mpr ⟨trivial, List.forall_mem_cons.mpr ⟨trivial, List.forall_mem_cons.mpr ⟨trivial, List.forall_mem_cons.mpr ⟨trivial, List.forall_mem_cons.mpr ⟨⟨_, rfl, (by decide), Or.inl mw_452⟩, List.forall_mem_cons.mpr ⟨trivial, List.forall_mem_cons.mpr ⟨trivial, List.forall_mem_cons.mpr ⟨trivial, List.forall_mem_cons.mpr ⟨trivial, List.forall_mem_cons.mpr ⟨trivial, List.forall_mem_cons.mpr ⟨⟨_, rfl, (by decide), Or.inl mw_448⟩, List.forall_mem_cons.mpr ⟨trivial, List.forall_mem_cons.mpr ⟨trivial, List.forall_mem_cons.mpr ⟨⟨_, rfl, (by decide), Or.inl ⟨rfl, mw_448⟩⟩, fun _ h => nomatch h⟩⟩⟩⟩⟩⟩⟩⟩⟩⟩⟩⟩⟩⟩⟩⟩⟩⟩⟩⟩⟩⟩⟩⟩⟩⟩⟩⟩⟩⟩⟩⟩⟩⟩⟩⟩⟩⟩⟩⟩⟩⟩⟩⟩⟩⟩⟩⟩⟩⟩⟩⟩⟩⟩⟩⟩⟩⟩⟩⟩
theorem m_dec_69_1 : (mt_69_1.all fun r => decide (decode (m_b 69) r.1 = .ok (r.2.1, m_len r.2.1)) && m_jumpb r.1 r.2.1 r.2.2.1) = true := by decide +kernel
set_option maxRecDepth 20000 in
theorem m_wrd_69_1 : ∀ r ∈ mt_69_1, m_okw 69 r.1 r.2.1 r.2.2.1 r.2.2.2 := List.forall_mem_cons.mpr ⟨trivial, List.forall_mem_cons.mpr ⟨trivial, fun _ h => nomatch h⟩⟩
theorem m_dec_69 : (mt_69.all fun r => decide (decode (m_b 69) r.1 = .ok (r.2.1, m_len r.2.1)) && m_jumpb r.1 r.2.1 r.2.2.1) = true := m_all_app m_dec_69_0 (m_dec_69_1)
theorem m_wrd_69 : ∀ r ∈ mt_69, m_okw 69 r.1 r.2.1 r.2.2.1 r.2.2.2 := List.forall_mem_append.mpr ⟨m_wrd_69_0, m_wrd_69_1⟩
theorem m_dec_70 : (mt_70.all fun r => decide (decode (m_b 70) r.1 = .ok (r.2.1, m_len r.2.1)) && m_jumpb r.1 r.2.1 r.2.2.1) = true := by decide +kernel
set_option maxRecDepth 20000 in
theorem m_wrd_70 : ∀ r ∈ mt_70, m_okw 70 r.1 r.2.1 r.2.2.1 r.2.2.2 := List.forall_mem_cons.mpr ⟨trivial, List.forall_mem_cons.mpr ⟨trivial, List.forall_mem_cons.mpr ⟨trivial, List.forall_mem_cons.mpr ⟨trivial, List.forall_mem_cons.mpr ⟨trivial, List.forall_mem_cons.mpr ⟨⟨m_fact_68, (Or.inl mw_526), mw_528, mwp_14⟩, List.forall_mem_cons.mpr ⟨⟨_, rfl, (by decide), Or.inl ⟨rfl, mw_443⟩⟩, List.forall_mem_cons.mpr ⟨trivial, List.forall_mem_cons.mpr ⟨⟨_, rfl, (by decide), Or.inl mw_443⟩, List.forall_mem_cons.mpr ⟨trivial, List.forall_mem_cons.mpr ⟨trivial, List.forall_mem_cons.mpr ⟨trivial, List.forall_mem_cons.mpr ⟨trivial, List.forall_mem_cons.mpr ⟨trivial, List.forall_mem_cons.mpr ⟨trivial, List.forall_mem_cons.mpr ⟨trivial, List.forall_mem_cons.mpr ⟨⟨m_fact_63, (Or.inl mw_530), mw_532, mwp_15⟩, List.forall_mem_cons.mpr ⟨trivial, fun _ h => nomatch h⟩⟩⟩⟩⟩⟩⟩⟩⟩⟩⟩⟩⟩⟩⟩⟩⟩⟩
theorem m_dec_71 : (mt_71.all fun r => decide (decode (m_b 71) r.1 = .ok (r.2.1, m_len r.2.1)) && m_jumpb r.1 r.2.1 r.2.2.1) = true := by decide +kernel
set_option maxRecDepth 20000 in
theorem m_wrd_71 : ∀ r ∈ mt_71, m_okw 71 r.1 r.2.1 r.2.2.1 r.2.2.2 := List.forall_mem_cons.mpr ⟨trivial, List.forall_mem_cons.mpr ⟨trivial, List.forall_mem_cons.mpr ⟨trivial, List.forall_mem_cons.mpr ⟨trivial, List.forall_mem_cons.mpr ⟨⟨_, rfl, (by decide), Or.inl mw_448⟩, List.forall_mem_cons.mpr ⟨trivial, List.forall_mem_cons.mpr ⟨trivial, List.forall_mem_cons.mpr ⟨trivial, List.forall_mem_cons.mpr ⟨trivial, List.forall_mem_cons.mpr ⟨trivial, fun _ h => nomatch h⟩⟩⟩⟩⟩⟩⟩⟩⟩⟩
theorem m_dec_72 : (mt_72.all fun r => decide (decode (m_b 72) r.1 = .ok (r.2.1, m_len r.2.1)) && m_jumpb r.1 r.2.1 r.2.2.1) = true := by decide +kernel
set_option maxRecDepth 20000 in
theorem m_wrd_72 : ∀ r ∈ mt_72, m_okw 72 r.1 r.2.1 r.2.2.1 r.2.2.2 := List.forall_mem_cons.mpr ⟨trivial, List.forall_mem_cons.mpr ⟨trivial, List.forall_mem_cons.mpr ⟨⟨m_fact_71, (Or.inl mw_562), mw_564, mwp_21⟩, List.forall_mem_cons.mpr ⟨trivial, List.forall_mem_cons.mpr ⟨trivial, List.forall_mem_cons.mpr ⟨⟨_, rfl, (by decide), Or.inl mw_452⟩, List.forall_mem_cons.mpr ⟨trivial, List.forall_mem_cons.mpr ⟨trivial, List.forall_mem_cons.mpr ⟨trivial, List.forall_mem_cons.mpr ⟨trivial, List.forall_mem_cons.mpr ⟨trivial, List.forall_mem_cons.mpr ⟨trivial, List.forall_mem_cons.mpr ⟨trivial, fun _ h => nomatch h⟩⟩⟩⟩⟩⟩⟩⟩⟩⟩⟩⟩⟩
theorem m_dec_73 : (mt_73.all fun r => decide (decode (m_b 73) r.1 = .ok (r.2.1, m_len r.2.1)) && m_jumpb r.1 r.2.1 r.2.2.1) = true := by decide +kernel
set_option maxRecDepth 20000 in
theorem m_wrd_73 : ∀ r ∈ mt_73, m_okw 73 r.1 r.2.1 r.2.2.1 r.2.2.2 := List.forall_mem_cons.mpr ⟨trivial, List.forall_mem_cons.mpr ⟨⟨_, rfl, (by decide), Or.inl mw_454⟩, List.forall_mem_cons.mpr ⟨trivial, List.forall_mem_cons.mpr ⟨trivial, List.forall_mem_cons.mpr ⟨⟨_, rfl, (by decide), Or.inl mw_453⟩, List.forall_mem_cons.mpr ⟨trivial, List.forall_mem_cons.mpr ⟨trivial, List.forall_mem_cons.mpr ⟨trivial, List.forall_mem_cons.mpr ⟨⟨_, rfl, (by decide), Or.inl mw_444⟩, List.forall_mem_cons.mpr ⟨trivial, List.forall_mem_cons.mpr ⟨trivial, List.forall_mem_cons.mpr ⟨⟨_, rfl, (by decide), Or.inl mw_453⟩, List.forall_mem_cons.mpr ⟨trivial, List.forall_mem_cons.mpr ⟨trivial, List.forall_mem_cons.mpr ⟨trivial, List.forall_mem_cons.mpr ⟨trivial, List.forall_mem_cons.mpr ⟨trivial, List.forall_mem_cons.mpr ⟨trivial, List.forall_mem_cons.mpr ⟨⟨_, rfl, (by decide), Or.inl mw_444⟩, List.forall_mem_cons.mpr ⟨trivial, List.forall_mem_cons.mpr ⟨trivial, fun _ h => nomatch h⟩⟩⟩⟩⟩⟩⟩⟩⟩⟩⟩⟩⟩⟩⟩⟩⟩⟩⟩⟩⟩
theorem m_dec_74 : (mt_74.all fun r => decide (decode (m_b 74) r.1 = .ok (r.2.1, m_len r.2.1)) && m_jumpb r.1 r.2.1 r.2.2.1) = true := by decide +kernel
set_option maxRecDepth 20000 in
theorem m_wrd_74 : ∀ r ∈ mt_74, m_okw 74 r.1 r.2.1 r.2.2.1 r.2.2.2 := List.forall_mem_cons.mpr ⟨trivial, List.forall_mem_cons.mpr ⟨trivial, List.forall_mem_cons.mpr ⟨trivial, List.forall_mem_cons.mpr ⟨⟨m_fact_71, (Or.inl mw_562), mw_564, mwp_21⟩, List.forall_mem_cons.mpr ⟨trivial, List.forall_mem_cons.mpr ⟨trivial, List.forall_mem_cons.mpr ⟨trivial, List.forall_mem_cons.mpr ⟨trivial, List.forall_mem_cons.mpr ⟨trivial, List.forall_mem_cons.mpr ⟨⟨m_fact_72, (Or.inl mw_566), mw_568, mwp_22⟩, List.forall_mem_cons.mpr ⟨trivial, List.forall_mem_cons.mpr ⟨trivial, List.forall_mem_cons.mpr ⟨trivial, List.forall_mem_cons.mpr ⟨trivial, List.forall_mem_cons.mpr ⟨⟨_, rfl, (by decide), Or.inl ⟨rfl, mw_443⟩⟩, List.forall_mem_cons.mpr ⟨trivial, List.forall_mem_cons.mpr ⟨⟨_, rfl, (by decide), Or.inl mw_443⟩, List.forall_mem_cons.mpr ⟨trivial, List.forall_mem_cons.mpr ⟨trivial, List.forall_mem_cons.mpr ⟨trivial, List.forall_mem_cons.mpr ⟨trivial, List.forall_mem_cons.mpr ⟨⟨_, rfl, (by decide), Or.inl mw_454⟩, List.forall_mem_cons.mpr ⟨trivial, List.forall_mem_cons.mpr ⟨trivial, List.forall_mem_cons.mpr ⟨trivial, List.forall_mem_cons.mpr ⟨⟨_, rfl, (by decide), Or.inl mw_453⟩, List.forall_mem_cons.mpr ⟨trivial, List.forall_mem_cons.mpr ⟨trivial, List.forall_mem_cons.mpr ⟨trivial, List.forall_mem_cons.mpr ⟨⟨_, rfl, (by decide), Or.inl mw_444⟩, List.forall_mem_cons.mpr ⟨trivial, List.forall_mem_cons.mpr ⟨trivial, List.forall_mem_cons.mpr ⟨⟨_, rfl, (by decide), Or.inl mw_453⟩, List.forall_mem_cons.mpr ⟨trivial, List.forall_mem_cons.mpr ⟨trivial, List.forall_mem_cons.mpr ⟨trivial, List.forall_mem_cons.mpr ⟨trivial, List.forall_mem_cons.mpr ⟨⟨_, rfl, (by decide), Or.inl mw_444⟩, List.forall_mem_cons.mpr ⟨trivial, List.forall_mem_cons.mpr ⟨trivial, List.forall_mem_cons.mpr ⟨trivial, List.forall_mem_cons.mpr ⟨trivial, List.forall_mem_cons.mpr ⟨⟨m_fact_73, (Or.inl mw_570), mw_572, mwp_23⟩, List.forall_mem_cons.mpr ⟨trivial, List.forall_mem_cons.mpr ⟨⟨_, rfl, (by decide), Or.inl mw_452⟩, List.forall_mem_cons.mpr ⟨trivial, List.forall_mem_cons.mpr ⟨trivial, List.forall_mem_cons.mpr ⟨trivial, List.forall_mem_cons.mpr ⟨trivial, List.forall_mem_cons.mpr ⟨trivial, fun _ h => nomatch h⟩⟩⟩⟩⟩⟩⟩⟩⟩⟩⟩⟩⟩⟩⟩⟩⟩⟩⟩⟩⟩⟩⟩⟩⟩⟩⟩⟩⟩⟩⟩⟩⟩⟩⟩⟩⟩⟩⟩⟩⟩⟩⟩⟩⟩⟩⟩⟩⟩⟩
theorem m_dec_75_0 : (mt_75_0.all fun r => decide (decode (m_b 75) r.1 = .ok (r.2.1, m_len r.2.1)) && m_jumpb r.1 r.2.1 r.2.2.1) = true := by decide +kernel
set_option maxRecDepth 20000 in
theorem m_wrd_75_0 : ∀ r ∈ mt_75_0, m_okw 75 r.1 r.2.1 r.2.2.1 r.2.2.2 := List.forall_mem_cons.mpr ⟨trivial, List.forall_mem_cons.mpr ⟨trivial, List.forall_mem_cons.mpr ⟨trivial, List.forall_mem_cons.mpr ⟨trivial, List.forall_mem_cons.mpr ⟨⟨m_fact_55, (Or.inl mw_502), mw_504, mwp_10⟩, List.forall_mem_cons.mpr ⟨trivial, List.forall_mem_cons.mpr ⟨trivial, List.forall_mem_cons.mpr ⟨trivial, List.forall_mem_cons.mpr ⟨trivial, List.forall_mem_cons.mpr ⟨⟨_, rfl, (by decide), Or.inl ⟨rfl, mw_443⟩⟩, List.forall_mem_cons.mpr ⟨trivial, List.forall_mem_cons.mpr ⟨⟨_, rfl, (by decide), Or.inl mw_443⟩, List.forall_mem_cons.mpr ⟨trivial, List.forall_mem_cons.mpr ⟨trivial, List.forall_mem_cons.mpr ⟨trivial, List.forall_mem_cons.mpr ⟨trivial, List.forall_mem_cons.mpr ⟨trivial, List.forall_mem_cons.mpr ⟨trivial, List.forall_mem_cons.mpr ⟨trivial, List.forall_mem_cons.mpr ⟨⟨_, rfl, (by decide), Or.inl mw_448⟩, List.forall_mem_cons.mpr ⟨trivial, List.forall_mem_cons.mpr ⟨trivial, List.forall_mem_cons.mpr ⟨⟨_, rfl, (by decide), Or.inl mw_456⟩, List.forall_mem_cons.mpr ⟨trivial, List.forall_mem_cons.mpr ⟨trivial, List.forall_mem_cons.mpr ⟨trivial, List.forall_mem_cons.mpr ⟨trivial, List.forall_mem_cons.mpr ⟨⟨_, rfl, (by decide), Or.inl mw_444⟩, List.forall_mem_cons.mpr ⟨trivial, List.forall_mem_cons.mpr ⟨trivial, List.forall_mem_cons.mpr ⟨trivial, List.forall_mem_cons.mpr ⟨trivial, List.forall_mem_cons.mpr ⟨trivial, List.forall_mem_cons.mpr ⟨⟨_, rfl, (by decide), Or.inl mw_452⟩, List.forall_mem_cons.mpr ⟨trivial, List.forall_mem_cons.mpr ⟨trivial, List.forall_mem_cons.mpr ⟨trivial, List.forall_mem_cons.mpr ⟨trivial, List.forall_mem_cons.mpr ⟨⟨_, rfl, (by decide), Or.inl mw_456⟩, List.forall_mem_cons.mpr ⟨trivial, List.forall_mem_cons.mpr ⟨trivial, List.forall_mem_cons.mpr ⟨⟨_, rfl, (by decide), Or.inl mw_456⟩, List.forall_mem_cons.mpr ⟨trivial, List.forall_mem_cons.mpr ⟨trivial, List.forall_mem_cons.mpr ⟨trivial, List.forall_mem_cons.mpr ⟨trivial, List.forall_mem_cons.mpr ⟨trivial, List.forall_mem_cons.mpr ⟨trivial, List.forall_mem_cons.mpr ⟨trivial, List.forall_mem_cons.mpr ⟨trivial, List.forall_mem_cons.mpr ⟨⟨m_fact_59, (Or.inl mw_546), mw_548, mwp_19⟩, List.forall_mem_cons.mpr ⟨trivial, List.forall_mem_cons.mpr ⟨trivial, List.forall_mem_cons.mpr ⟨trivial, List.forall_mem_cons.mpr ⟨trivial, List.forall_mem_cons.mpr ⟨trivial, List.forall_mem_cons.mpr ⟨trivial, List.forall_mem_cons.mpr ⟨⟨m_fact_59, (Or.inl mw_546), mw_548, mwp_19⟩, List.forall_mem_cons.mpr ⟨trivial, List.forall_mem_cons.mpr ⟨trivial, fun _ h => nomatch h⟩⟩⟩⟩⟩⟩⟩⟩⟩⟩⟩⟩⟩⟩⟩⟩⟩⟩⟩⟩⟩⟩⟩⟩⟩⟩⟩⟩⟩⟩⟩⟩⟩⟩⟩⟩⟩⟩⟩⟩⟩⟩⟩⟩⟩⟩⟩⟩⟩⟩⟩⟩⟩⟩⟩⟩⟩⟩⟩⟩
theorem m_dec_75_1 : (mt_75_1.all fun r => decide (decode (m_b 75) r.1 = .ok (r.2.1, m_len r.2.1)) && m_jumpb r.1 r.2.1 r.2.2.1) = true := by decide +kernel
set_option maxRecDepth 20000 in
theorem m_wrd_75_1 : ∀ r ∈ mt_75_1, m_okw 75 r.1 r.2.1 r.2.2.1 r.2.2.2 := List.forall_mem_cons.mpr ⟨trivial, List.forall_mem_cons.mpr ⟨trivial, List.forall_mem_cons.mpr ⟨trivial, List.forall_mem_cons.mpr ⟨trivial, List.forall_mem_cons.mpr ⟨trivial, List.forall_mem_cons.mpr ⟨trivial, List.forall_mem_cons.mpr ⟨trivial, List.forall_mem_cons.mpr ⟨trivial, List.forall_mem_cons.mpr ⟨⟨_, rfl, (by decide), Or.inl mw_444⟩, List.forall_mem_cons.mpr ⟨trivial, List.forall_mem_cons.mpr ⟨trivial, List.forall_mem_cons.mpr ⟨trivial, List.forall_mem_cons.mpr ⟨trivial, List.forall_mem_cons.mpr ⟨trivial, List.forall_mem_cons.mpr ⟨trivial, List.forall_mem_cons.mpr ⟨trivial, List.forall_mem_cons.mpr ⟨trivial, List.forall_mem_cons.mpr ⟨trivial, List.forall_mem_cons.mpr ⟨⟨m_fact_58, (Or.inl mw_514), mw_516, mwp_13⟩, List.forall_mem_cons.mpr ⟨trivial, List.forall_mem_cons.mpr ⟨trivial, List.forall_mem_cons.mpr ⟨trivial, List.forall_mem_cons.mpr ⟨trivial, List.forall_mem_cons.mpr ⟨trivial, List.forall_mem_cons.mpr ⟨trivial, List.forall_mem_cons.mpr ⟨⟨_, rfl, (by decide), Or.inl mw_448⟩, List.forall_mem_cons.mpr ⟨trivial, List.forall_mem_cons.mpr ⟨trivial, List.forall_mem_cons.mpr ⟨⟨_, rfl, (by decide), Or.inl mw_456⟩, List.forall_mem_cons.mpr ⟨trivial, List.forall_mem_cons.mpr ⟨trivial, List.forall_mem_cons.mpr ⟨trivial, List.forall_mem_cons.mpr ⟨trivial, List.forall_mem_cons.mpr ⟨trivial, List.forall_mem_cons.mpr ⟨⟨m_fact_73, (Or.inl mw_570), mw_572, mwp_23⟩, List.forall_mem_cons.mpr ⟨trivial, List.forall_mem_cons.mpr ⟨trivial, List.forall_mem_cons.mpr ⟨trivial, List.forall_mem_cons.mpr ⟨trivial, List.forall_mem_cons.mpr ⟨trivial, List.forall_mem_cons.mpr ⟨trivial, List.forall_mem_cons.mpr ⟨trivial, List.forall_mem_cons.mpr ⟨trivial, List.forall_mem_cons.mpr ⟨⟨_, rfl, (by decide), Or.inl mw_448⟩, List.forall_mem_cons.mpr ⟨trivial, List.forall_mem_cons.mpr ⟨trivial, List.forall_mem_cons.mpr ⟨⟨_, rfl, (by decide), Or.inl mw_456⟩, List.forall_mem_cons.mpr ⟨trivial, List.forall_mem_cons.mpr ⟨trivial, List.forall_mem_cons.mpr ⟨trivial, List.forall_mem_cons.mpr ⟨trivial, List.forall_mem_cons.mpr ⟨⟨_, rfl, (by decide), Or.inl mw_451⟩, List.forall_mem_cons.mpr ⟨trivial, List.forall_mem_cons.mpr ⟨trivial, List.forall_mem_cons.mpr ⟨trivial, List.forall_mem_cons.mpr ⟨⟨_, rfl, (by decide), Or.inl mw_444⟩, List.forall_mem_cons.mpr ⟨trivial, List.forall_mem_cons.mpr ⟨trivial, List.forall_mem_cons.mpr ⟨trivial, List.forall_mem_cons.mpr ⟨trivial, fun _ h => nomatch h⟩⟩⟩⟩⟩⟩⟩⟩⟩⟩⟩⟩⟩⟩⟩⟩⟩⟩⟩⟩⟩⟩⟩⟩⟩⟩⟩⟩⟩⟩⟩⟩⟩⟩⟩⟩⟩⟩⟩⟩⟩⟩⟩⟩⟩⟩⟩⟩⟩⟩⟩⟩⟩⟩⟩⟩⟩⟩⟩⟩
theorem m_dec_75_2 : (mt_75_2.all fun r => decide (decode (m_b 75) r.1 = .ok (r.2.1, m_len r.2.1)) && m_jumpb r.1 r.2.1 r.2.2.1) = true := by decide +kernel
set_option maxRecDepth 20000 in
theorem m_wrd_75_2 : ∀ r ∈ mt_75_2, m_okw 75 r.1 r.2.1 r.2.2.1 r.2.2.2 := List.forall_mem_cons.mpr ⟨trivial, List.forall_mem_cons.mpr ⟨trivial, List.forall_mem_cons.mpr ⟨trivial, List.forall_mem_cons.mpr ⟨trivial, List.forall_mem_cons.mpr ⟨⟨_, rfl, (by decide), Or.inl mw_444⟩, List.forall_mem_cons.mpr ⟨trivial, List.forall_mem_cons.mpr ⟨trivial, List.forall_mem_cons.mpr ⟨⟨_, rfl, (by decide), Or.inl mw_451⟩, List.forall_mem_cons.mpr ⟨trivial, List.forall_mem_cons.mpr ⟨trivial, List.forall_mem_cons.mpr ⟨trivial, List.forall_mem_cons.mpr ⟨trivial, List.forall_mem_cons.mpr ⟨trivial, List.forall_mem_cons.mpr ⟨trivial, List.forall_mem_cons.mpr ⟨⟨_, rfl, (by decide), Or.inl mw_455⟩, List.forall_mem_cons.mpr ⟨trivial, List.forall_mem_cons.mpr ⟨trivial, List.forall_mem_cons.mpr ⟨trivial, List.forall_mem_cons.mpr ⟨trivial, List.forall_mem_cons.mpr ⟨⟨_, rfl, (by decide), Or.inl mw_444⟩, List.forall_mem_cons.mpr ⟨trivial, List.forall_mem_cons.mpr ⟨trivial, List.forall_mem_cons.mpr ⟨trivial, List.forall_mem_cons.mpr ⟨trivial, List.forall_mem_cons.mpr ⟨⟨_, rfl, (by decide), Or.inl mw_450⟩, List.forall_mem_cons.mpr ⟨trivial, List.forall_mem_cons.mpr ⟨trivial, List.forall_mem_cons.mpr ⟨trivial, List.forall_mem_cons.mpr ⟨trivial, List.forall_mem_cons.mpr ⟨trivial, List.forall_mem_cons.mpr ⟨trivial, List.forall_mem_cons.mpr ⟨⟨_, rfl, (by decide), Or.inl mw_449⟩, List.forall_mem_cons.mpr ⟨trivial, List.forall_mem_cons.mpr ⟨trivial, List.forall_mem_cons.mpr ⟨trivial, List.forall_mem_cons.mpr ⟨⟨m_fact_63, (Or.inl mw_530), mw_532, mwp_15⟩, List.forall_mem_cons.mpr ⟨trivial, List.forall_mem_cons.mpr ⟨trivial, List.forall_mem_cons.mpr ⟨trivial, List.forall_mem_cons.mpr ⟨⟨_, rfl, (by decide), Or.inl mw_452⟩, List.forall_mem_cons.mpr ⟨trivial, List.forall_mem_cons.mpr ⟨trivial, List.forall_mem_cons.mpr ⟨trivial, List.forall_mem_cons.mpr ⟨trivial, List.forall_mem_cons.mpr ⟨trivial, List.forall_mem_cons.mpr ⟨trivial, List.forall_mem_cons.mpr ⟨trivial, List.forall_mem_cons.mpr ⟨trivial, List.forall_mem_cons.mpr ⟨trivial, List.forall_mem_cons.mpr ⟨⟨m_fact_64, (Or.inl mw_550), mw_552, mwp_20⟩, List.forall_mem_cons.mpr ⟨trivial, List.forall_mem_cons.mpr ⟨trivial, List.forall_mem_cons.mpr ⟨trivial, List.forall_mem_cons.mpr ⟨trivial, fun _ h => nomatch h⟩⟩⟩⟩⟩⟩⟩⟩⟩⟩⟩⟩⟩⟩⟩⟩⟩⟩⟩⟩⟩⟩⟩⟩⟩⟩⟩⟩⟩⟩⟩⟩⟩⟩⟩⟩⟩⟩⟩⟩⟩⟩⟩⟩⟩⟩⟩⟩⟩⟩⟩⟩⟩⟩
theorem m_dec_75 : (mt_75.all fun r => decide (decode (m_b 75) r.1 = .ok (r.2.1, m_len r.2.1)) && m_jumpb r.1 r.2.1 r.2.2.1) = true := m_all_app m_dec_75_0 (m_all_app m_dec_75_1 (m_dec_75_2))
theorem m_wrd_75 : ∀ r ∈ mt_75, m_okw 75 r.1 r.2.1 r.2.2.1 r.2.2.2 := List.forall_mem_append.mpr ⟨m_wrd_75_0, List.forall_mem_append.mpr ⟨m_wrd_75_1, m_wrd_75_2⟩⟩
theorem m_dec_76 : (mt_76.all fun r => decide (decode (m_b 76) r.1 = .ok (r.2.1, m_len r.2.1)) && m_jumpb r.1 r.2.1 r.2.2.1) = true := by decide +kernel
set_option maxRecDepth 20000 in
theorem m_wrd_76 : ∀ r ∈ mt_76, m_okw 76 r.1 r.2.1 r.2.2.1 r.2.2.2 := List.forall_mem_cons.mpr ⟨trivial, List.forall_mem_cons.mpr ⟨trivial, List.forall_mem_cons.mpr ⟨⟨_, rfl, (by decide), Or.inl mw_444⟩, List.forall_mem_cons.mpr ⟨trivial, List.forall_mem_cons.mpr ⟨trivial, List.forall_mem_cons.mpr ⟨trivial, List.forall_mem_cons.mpr ⟨trivial, List.forall_mem_cons.mpr ⟨trivial, List.forall_mem_cons.mpr ⟨⟨_, rfl, (by decide), Or.inl ⟨rfl, mw_443⟩⟩, List.forall_mem_cons.mpr ⟨trivial, List.forall_mem_cons.mpr ⟨⟨_, rfl, (by decide), Or.inl mw_443⟩, List.forall_mem_cons.mpr ⟨trivial, List.forall_mem_cons.mpr ⟨trivial, List.forall_mem_cons.mpr ⟨trivial, List.forall_mem_cons.mpr ⟨trivial, List.forall_mem_cons.mpr ⟨trivial, List.forall_mem_cons.mpr ⟨⟨_, rfl, (by decide), Or.inl mw_444⟩, List.forall_mem_cons.mpr ⟨trivial, List.forall_mem_cons.mpr ⟨trivial, List.forall_mem_cons.mpr ⟨⟨_, rfl, (by decide), Or.inl ⟨rfl, mw_444⟩⟩, List.forall_mem_cons.mpr ⟨trivial, List.forall_mem_cons.mpr ⟨trivial, List.forall_mem_cons.mpr ⟨trivial, List.forall_mem_cons.mpr ⟨trivial, List.forall_mem_cons.mpr ⟨trivial, List.forall_mem_cons.mpr ⟨trivial, List.forall_mem_cons.mpr ⟨⟨_, rfl, (by decide), Or.inl mw_448⟩, List.forall_mem_cons.mpr ⟨trivial, List.forall_mem_cons.mpr ⟨trivial, List.forall_mem_cons.mpr ⟨⟨_, rfl, (by decide), Or.inl mw_452⟩, List.forall_mem_cons.mpr ⟨trivial, List.forall_mem_cons.mpr ⟨trivial, List.forall_mem_cons.mpr ⟨trivial, List.forall_mem_cons.mpr ⟨trivial, List.forall_mem_cons.mpr ⟨⟨_, rfl, (by decide), Or.inl mw_454⟩, List.forall_mem_cons.mpr ⟨trivial, List.forall_mem_cons.mpr ⟨trivial, List.forall_mem_cons.mpr ⟨trivial, List.forall_mem_cons.mpr ⟨⟨_, rfl, (by decide), Or.inl mw_444⟩, List.forall_mem_cons.mpr ⟨trivial, List.forall_mem_cons.mpr ⟨trivial, List.forall_mem_cons.mpr ⟨⟨_, rfl, (by decide), Or.inl mw_452⟩, List.forall_mem_cons.mpr ⟨trivial, List.forall_mem_cons.mpr ⟨trivial, List.forall_mem_cons.mpr ⟨trivial, List.forall_mem_cons.mpr ⟨trivial, List.forall_mem_cons.mpr ⟨trivial, List.forall_mem_cons.mpr ⟨trivial, List.forall_mem_cons.mpr ⟨trivial, List.forall_mem_cons.mpr ⟨trivial, fun _ h => nomatch h⟩⟩⟩⟩⟩⟩⟩⟩⟩⟩⟩⟩⟩⟩⟩⟩⟩⟩⟩⟩⟩⟩⟩⟩⟩⟩⟩⟩⟩⟩⟩⟩⟩⟩⟩⟩⟩⟩⟩⟩⟩⟩⟩⟩⟩⟩⟩⟩⟩⟩
theorem m_dec_77 : (mt_77.all fun r => decide (decode (m_b 77) r.1 = .ok (r.2.1, m_len r.2.1)) && m_jumpb r.1 r.2.1 r.2.2.1) = true := by decide +kernel
set_option maxRecDepth 20000 in
theorem m_wrd_77 : ∀ r ∈ mt_77, m_okw 77 r.1 r.2.1 r.2.2.1 r.2.2.2 := List.forall_mem_cons.mpr ⟨trivial, List.forall_mem_cons.mpr ⟨trivial, List.forall_mem_cons.mpr ⟨⟨_, rfl, (by decide), Or.inl ⟨rfl, mw_443⟩⟩, List.forall_mem_cons.mpr ⟨trivial, List.forall_mem_cons.mpr ⟨trivial, List.forall_mem_cons.mpr ⟨⟨m_fact_71, (Or.inl mw_562), mw_564, mwp_21⟩, List.forall_mem_cons.mpr ⟨trivial, List.forall_mem_cons.mpr ⟨trivial, List.forall_mem_cons.mpr ⟨trivial, List.forall_mem_cons.mpr ⟨trivial, List.forall_mem_cons.mpr ⟨⟨_, rfl, (by decide), Or.inl mw_452⟩, List.forall_mem_cons.mpr ⟨trivial, List.forall_mem_cons.mpr ⟨trivial, List.forall_mem_cons.mpr ⟨trivial, List.forall_mem_cons.mpr ⟨trivial, List.forall_mem_cons.mpr ⟨⟨_, rfl, (by decide), Or.inl mw_452⟩, List.forall_mem_cons.mpr ⟨trivial, List.forall_mem_cons.mpr ⟨trivial, List.forall_mem_cons.mpr ⟨trivial, List.forall_mem_cons.mpr ⟨trivial, List.forall_mem_cons.mpr ⟨⟨_, rfl, (by decide), Or.inl mw_444⟩, List.forall_mem_cons.mpr ⟨trivial, List.forall_mem_cons.mpr ⟨⟨_, rfl, (by decide), Or.inl mw_451⟩, List.forall_mem_cons.mpr ⟨trivial, List.forall_mem_cons.mpr ⟨trivial, List.forall_mem_cons.mpr ⟨trivial, List.forall_mem_cons.mpr ⟨trivial, List.forall_mem_cons.mpr ⟨trivial, List.forall_mem_cons.mpr ⟨trivial, List.forall_mem_cons.mpr ⟨trivial, fun _ h => nomatch h⟩⟩⟩⟩⟩⟩⟩⟩⟩⟩⟩⟩⟩⟩⟩⟩⟩⟩⟩⟩⟩⟩⟩⟩⟩⟩⟩⟩⟩⟩
theorem m_dec_78 : (mt_78.all fun r => decide (decode (m_b 78) r.1 = .ok (r.2.1, m_len r.2.1)) && m_jumpb r.1 r.2.1 r.2.2.1) = true := by decide +kernel
set_option maxRecDepth 20000 in
theorem m_wrd_78 : ∀ r ∈ mt_78, m_okw 78 r.1 r.2.1 r.2.2.1 r.2.2.2 := List.forall_mem_cons.mpr ⟨trivial, List.forall_mem_cons.mpr ⟨trivial, List.forall_mem_cons.mpr ⟨⟨_, rfl, (by decide), Or.inl ⟨rfl, mw_443⟩⟩, List.forall_mem_cons.mpr ⟨trivial, List.forall_mem_cons.mpr ⟨trivial, List.forall_mem_cons.mpr ⟨⟨m_fact_72, (Or.inl mw_566), mw_568, mwp_22⟩, List.forall_mem_cons.mpr ⟨trivial, List.forall_mem_cons.mpr ⟨trivial, List.forall_mem_cons.mpr ⟨⟨_, rfl, (by decide), Or.inl mw_444⟩, List.forall_mem_cons.mpr ⟨trivial, List.forall_mem_cons.mpr ⟨⟨_, rfl, (by decide), Or.inl mw_451⟩, List.forall_mem_cons.mpr ⟨trivial, List.forall_mem_cons.mpr ⟨trivial, List.forall_mem_cons.mpr ⟨trivial, List.forall_mem_cons.mpr ⟨trivial, List.forall_mem_cons.mpr ⟨⟨_, rfl, (by decide), Or.inl mw_455⟩, List.forall_mem_cons.mpr ⟨trivial, List.forall_mem_cons.mpr ⟨trivial, List.forall_mem_cons.mpr ⟨trivial, List.forall_mem_cons.mpr ⟨trivial, List.forall_mem_cons.mpr ⟨⟨_, rfl, (by decide), Or.inl mw_444⟩, List.forall_mem_cons.mpr ⟨trivial, List.forall_mem_cons.mpr ⟨trivial, List.forall_mem_cons.mpr ⟨trivial, List.forall_mem_cons.mpr ⟨trivial, List.forall_mem_cons.mpr ⟨trivial, fun _ h => nomatch h⟩⟩⟩⟩⟩⟩⟩⟩⟩⟩⟩⟩⟩⟩⟩⟩⟩⟩⟩⟩⟩⟩⟩⟩⟩⟩
theorem m_dec_79 : (mt_79.all fun r => decide (decode (m_b 79) r.1 = .ok (r.2.1, m_len r.2.1)) && m_jumpb r.1 r.2.1 r.2.2.1) = true := by decide +kernel
set_option maxRecDepth 20000 in
theorem m_wrd_79 : ∀ r ∈ mt_79, m_okw 79 r.1 r.2.1 r.2.2.1 r.2.2.2 := List.forall_mem_cons.mpr ⟨trivial, List.forall_mem_cons.mpr ⟨trivial, List.forall_mem_cons.mpr ⟨⟨_, rfl, (by decide), Or.inl ⟨rfl, mw_443⟩⟩, List.forall_mem_cons.mpr ⟨trivial, List.forall_mem_cons.mpr ⟨trivial, List.forall_mem_cons.mpr ⟨⟨m_fact_72, (Or.inl mw_566), mw_568, mwp_22⟩, List.forall_mem_cons.mpr ⟨trivial, List.forall_mem_cons.mpr ⟨trivial, List.forall_mem_cons.mpr ⟨trivial, List.forall_mem_cons.mpr ⟨⟨m_fact_71, (Or.inl mw_562), mw_564, mwp_21⟩, List.forall_mem_cons.mpr ⟨trivial, List.forall_mem_cons.mpr ⟨trivial, List.forall_mem_cons.mpr ⟨⟨_, rfl, (by decide), Or.inl mw_452⟩, List.forall_mem_cons.mpr ⟨trivial, List.forall_mem_cons.mpr ⟨trivial, List.forall_mem_cons.mpr ⟨trivial, List.forall_mem_cons.mpr ⟨trivial, List.forall_mem_cons.mpr ⟨trivial, List.forall_mem_cons.mpr ⟨⟨_, rfl, (by decide), Or.inl mw_454⟩, List.forall_mem_cons.mpr ⟨trivial, List.forall_mem_cons.mpr ⟨trivial, List.forall_mem_cons.mpr ⟨trivial, List.forall_mem_cons.mpr ⟨trivial, List.forall_mem_cons.mpr ⟨trivial, fun _ h => nomatch h⟩⟩⟩⟩⟩⟩⟩⟩⟩⟩⟩⟩⟩⟩⟩⟩⟩⟩⟩⟩⟩⟩⟩⟩
theorem m_dec_80 : (mt_80.all fun r => decide (decode (m_b 80) r.1 = .ok (r.2.1, m_len r.2.1)) && m_jumpb r.1 r.2.1 r.2.2.1) = true := by decide +kernel
set_option maxRecDepth 20000 in
theorem m_wrd_80 : ∀ r ∈ mt_80, m_okw 80 r.1 r.2.1 r.2.2.1 r.2.2.2 := List.forall_mem_cons.mpr ⟨trivial, List.forall_mem_cons.mpr ⟨trivial, List.forall_mem_cons.mpr ⟨⟨_, rfl, (by decide), Or.inl ⟨rfl, mw_443⟩⟩, List.forall_mem_cons.mpr ⟨trivial, List.forall_mem_cons.mpr ⟨trivial, List.forall_mem_cons.mpr ⟨⟨m_fact_71, (Or.inl mw_562), mw_564, mwp_21⟩, List.forall_mem_cons.mpr ⟨trivial, List.forall_mem_cons.mpr ⟨trivial, List.forall_mem_cons.mpr ⟨trivial, List.forall_mem_cons.mpr ⟨⟨_, rfl, (by decide), Or.inl mw_453⟩, List.forall_mem_cons.mpr ⟨trivial, List.forall_mem_cons.mpr ⟨trivial, List.forall_mem_cons.mpr ⟨trivial, List.forall_mem_cons.mpr ⟨trivial, List.forall_mem_cons.mpr ⟨trivial, List.forall_mem_cons.mpr ⟨⟨_, rfl, (by decide), Or.inl mw_454⟩, List.forall_mem_cons.mpr ⟨trivial, List.forall_mem_cons.mpr ⟨trivial, List.forall_mem_cons.mpr ⟨trivial, List.forall_mem_cons.mpr ⟨trivial, List.forall_mem_cons.mpr ⟨trivial, List.forall_mem_cons.mpr ⟨trivial, List.forall_mem_cons.mpr ⟨⟨_, rfl, (by decide), Or.inl mw_455⟩, List.forall_mem_cons.mpr ⟨trivial, List.forall_mem_cons.mpr ⟨trivial, List.forall_mem_cons.mpr ⟨trivial, List.forall_mem_cons.mpr ⟨trivial, List.forall_mem_cons.mpr ⟨trivial, List.forall_mem_cons.mpr ⟨trivial, List.forall_mem_cons.mpr ⟨trivial, fun _ h => nomatch h⟩⟩⟩⟩⟩⟩⟩⟩⟩⟩⟩⟩⟩⟩⟩⟩⟩⟩⟩⟩⟩⟩⟩⟩⟩⟩⟩⟩⟩⟩
theorem m_dec_81 : (mt_81.all fun r => decide (decode (m_b 81) r.1 = .ok (r.2.1, m_len r.2.1)) && m_jumpb r.1 r.2.1 r.2.2.1) = true := by decide +kernel
set_option maxRecDepth 20000 in
theorem m_wrd_81 : ∀ r ∈ mt_81, m_okw 81 r.1 r.2.1 r.2.2.1 r.2.2.2 := List.forall_mem_cons.mpr ⟨trivial, List.forall_mem_cons.mpr ⟨trivial, List.forall_mem_cons.mpr ⟨⟨_, rfl, (by decide), Or.inl ⟨rfl, mw_443⟩⟩, List.forall_mem_cons.mpr ⟨trivial, List.forall_mem_cons.mpr ⟨trivial, List.forall_mem_cons.mpr ⟨trivial, List.forall_mem_cons.mpr ⟨⟨m_fact_55, (Or.inl mw_502), mw_504, mwp_10⟩, List.forall_mem_cons.mpr ⟨trivial, List.forall_mem_cons.mpr ⟨trivial, List.forall_mem_cons.mpr ⟨⟨fun h => absurd h (by decide), fun _ => ⟨m_fact_56, (Or.inl mw_602), mw_603⟩⟩, List.forall_mem_cons.mpr ⟨trivial, List.forall_mem_cons.mpr ⟨trivial, List.forall_mem_cons.mpr ⟨trivial, List.forall_mem_cons.mpr ⟨trivial, List.forall_mem_cons.mpr ⟨trivial, List.forall_mem_cons.mpr ⟨trivial, List.forall_mem_cons.mpr ⟨trivial, List.forall_mem_cons.mpr ⟨⟨m_fact_60, (Or.inl mw_542), mw_544, mwp_18⟩, List.forall_mem_cons.mpr ⟨trivial, fun _ h => nomatch h⟩⟩⟩⟩⟩⟩⟩⟩⟩⟩⟩⟩⟩⟩⟩⟩⟩⟩⟩
theorem m_dec_82 : (mt_82.all fun r => decide (decode (m_b 82) r.1 = .ok (r.2.1, m_len r.2.1)) && m_jumpb r.1 r.2.1 r.2.2.1) = true := by decide +kernel
set_option maxRecDepth 20000 in
theorem m_wrd_82 : ∀ r ∈ mt_82, m_okw 82 r.1 r.2.1 r.2.2.1 r.2.2.2 := List.forall_mem_cons.mpr ⟨trivial, List.forall_mem_cons.mpr ⟨trivial, List.forall_mem_cons.mpr ⟨⟨_, rfl, (by decide), Or.inl ⟨rfl, mw_443⟩⟩, List.forall_mem_cons.mpr ⟨trivial, List.forall_mem_cons.mpr ⟨trivial, List.forall_mem_cons.mpr ⟨⟨m_fact_54, (Or.inl mw_506), mw_508, mwp_11⟩, List.forall_mem_cons.mpr ⟨trivial, List.forall_mem_cons.mpr ⟨trivial, List.forall_mem_cons.mpr ⟨⟨fun h => absurd h (by decide), fun _ => ⟨m_fact_56, (Or.inl mw_602), mw_603⟩⟩, List.forall_mem_cons.mpr ⟨trivial, List.forall_mem_cons.mpr ⟨trivial, List.forall_mem_cons.mpr ⟨trivial, List.forall_mem_cons.mpr ⟨trivial, List.forall_mem_cons.mpr ⟨trivial, List.forall_mem_cons.mpr ⟨trivial, List.forall_mem_cons.mpr ⟨trivial, List.forall_mem_cons.mpr ⟨⟨m_fact_60, (Or.inl mw_542), mw_544, mwp_18⟩, List.forall_mem_cons.mpr ⟨trivial, fun _ h => nomatch h⟩⟩⟩⟩⟩⟩⟩⟩⟩⟩⟩⟩⟩⟩⟩⟩⟩⟩
theorem m_dec_83 : (mt_83.all fun r => decide (decode (m_b 83) r.1 = .ok (r.2.1, m_len r.2.1)) && m_jumpb r.1 r.2.1 r.2.2.1) = true := by decide +kernel
set_option maxRecDepth 20000 in
theorem m_wrd_83 : ∀ r ∈ mt_83, m_okw 83 r.1 r.2.1 r.2.2.1 r.2.2.2 := List.forall_mem_cons.mpr ⟨trivial, List.forall_mem_cons.mpr ⟨trivial, List.forall_mem_cons.mpr ⟨⟨_, rfl, (by decide), Or.inl ⟨rfl, mw_443⟩⟩, List.forall_mem_cons.mpr ⟨trivial, List.forall_mem_cons.mpr ⟨trivial, List.forall_mem_cons.mpr ⟨trivial, List.forall_mem_cons.mpr ⟨⟨m_fact_55, (Or.inl mw_502), mw_504, mwp_10⟩, List.forall_mem_cons.mpr ⟨trivial, List.forall_mem_cons.mpr ⟨trivial, List.forall_mem_cons.mpr ⟨⟨fun h => absurd h (by decide), fun _ => ⟨m_fact_56, (Or.inl mw_602), mw_603⟩⟩, List.forall_mem_cons.mpr ⟨trivial, List.forall_mem_cons.mpr ⟨trivial, List.forall_mem_cons.mpr ⟨trivial, List.forall_mem_cons.mpr ⟨trivial, List.forall_mem_cons.mpr ⟨trivial, List.forall_mem_cons.mpr ⟨⟨m_fact_57, (Or.inl mw_510), mw_512, mwp_12⟩, List.forall_mem_cons.mpr ⟨trivial, List.forall_mem_cons.mpr ⟨trivial, List.forall_mem_cons.mpr ⟨trivial, List.forall_mem_cons.mpr ⟨trivial, List.forall_mem_cons.mpr ⟨trivial, fun _ h => nomatch h⟩⟩⟩⟩⟩⟩⟩⟩⟩⟩⟩⟩⟩⟩⟩⟩⟩⟩⟩⟩⟩
theorem m_dec_84 : (mt_84.all fun r => decide (decode (m_b 84) r.1 = .ok (r.2.1, m_len r.2.1)) && m_jumpb r.1 r.2.1 r.2.2.1) = true := by decide +kernel
set_option maxRecDepth 20000 in
theorem m_wrd_84 : ∀ r ∈ mt_84, m_okw 84 r.1 r.2.1 r.2.2.1 r.2.2.2 := List.forall_mem_cons.mpr ⟨trivial, List.forall_mem_cons.mpr ⟨trivial, List.forall_mem_cons.mpr ⟨⟨_, rfl, (by decide), Or.inl ⟨rfl, mw_443⟩⟩, List.forall_mem_cons.mpr ⟨trivial, List.forall_mem_cons.mpr ⟨trivial, List.forall_mem_cons.mpr ⟨⟨m_fact_54, (Or.inl mw_506), mw_508, mwp_11⟩, List.forall_mem_cons.mpr ⟨trivial, List.forall_mem_cons.mpr ⟨trivial, List.forall_mem_cons.mpr ⟨⟨fun h => absurd h (by decide), fun _ => ⟨m_fact_56, (Or.inl mw_602), mw_603⟩⟩, List.forall_mem_cons.mpr ⟨trivial, List.forall_mem_cons.mpr ⟨trivial, List.forall_mem_cons.mpr ⟨trivial, List.forall_mem_cons.mpr ⟨trivial, List.forall_mem_cons.mpr ⟨⟨_, rfl, (by decide), Or.inl mw_446⟩, List.forall_mem_cons.mpr ⟨trivial, List.forall_mem_cons.mpr ⟨trivial, List.forall_mem_cons.mpr ⟨trivial, List.forall_mem_cons.mpr ⟨trivial, List.forall_mem_cons.mpr ⟨trivial, List.forall_mem_cons.mpr ⟨trivial, List.forall_mem_cons.mpr ⟨⟨m_fact_60, (Or.inl mw_542), mw_544, mwp_18⟩, List.forall_mem_cons.mpr ⟨trivial, List.forall_mem_cons.mpr ⟨trivial, fun _ h => nomatch h⟩⟩⟩⟩⟩⟩⟩⟩⟩⟩⟩⟩⟩⟩⟩⟩⟩⟩⟩⟩⟩⟩⟩
theorem m_dec_85 : (mt_85.all fun r => decide (decode (m_b 85) r.1 = .ok (r.2.1, m_len r.2.1)) && m_jumpb r.1 r.2.1 r.2.2.1) = true := by decide +kernel
set_option maxRecDepth 20000 in
theorem m_wrd_85 : ∀ r ∈ mt_85, m_okw 85 r.1 r.2.1 r.2.2.1 r.2.2.2 := List.forall_mem_cons.mpr ⟨trivial, List.forall_mem_cons.mpr ⟨trivial, List.forall_mem_cons.mpr ⟨trivial, List.forall_mem_cons.mpr ⟨trivial, List.forall_mem_cons.mpr ⟨trivial, List.forall_mem_cons.mpr ⟨⟨m_fact_27, (Or.inl mw_171), mw_172, mw_173⟩, List.forall_mem_cons.mpr ⟨trivial, List.forall_mem_cons.mpr ⟨trivial, List.forall_mem_cons.mpr ⟨trivial, List.forall_mem_cons.mpr ⟨trivial, List.forall_mem_cons.mpr ⟨trivial, List.forall_mem_cons.mpr ⟨trivial, List.forall_mem_cons.mpr ⟨trivial, List.forall_mem_cons.mpr ⟨trivial, List.forall_mem_cons.mpr ⟨trivial, List.forall_mem_cons.mpr ⟨trivial, List.forall_mem_cons.mpr ⟨trivial, fun _ h => nomatch h⟩⟩⟩⟩⟩⟩⟩⟩⟩⟩⟩⟩⟩⟩⟩⟩⟩
theorem m_dec_86 : (mt_86.all fun r => decide (decode (m_b 86) r.1 = .ok (r.2.1, m_len r.2.1)) && m_jumpb r.1 r.2.1 r.2.2.1) = true := by decide +kernel
set_option maxRecDepth 20000 in
theorem m_wrd_86 : ∀ r ∈ mt_86, m_okw 86 r.1 r.2.1 r.2.2.1 r.2.2.2 := List.forall_mem_cons.mpr ⟨trivial, List.forall_mem_cons.mpr ⟨trivial, List.forall_mem_cons.mpr ⟨trivial, List.forall_mem_cons.mpr ⟨trivial, List.forall_mem_cons.mpr ⟨trivial, List.forall_mem_cons.mpr ⟨trivial, List.forall_mem_cons.mpr ⟨trivial, List.forall_mem_cons.mpr ⟨⟨m_fact_28, (Or.inl mw_268), mw_269, mw_270⟩, List.forall_mem_cons.mpr ⟨trivial, List.forall_mem_cons.mpr ⟨trivial, List.forall_mem_cons.mpr ⟨trivial, List.forall_mem_cons.mpr ⟨trivial, List.forall_mem_cons.mpr ⟨trivial, List.forall_mem_cons.mpr ⟨trivial, List.forall_mem_cons.mpr ⟨trivial, List.forall_mem_cons.mpr ⟨trivial, List.forall_mem_cons.mpr ⟨trivial, List.forall_mem_cons.mpr ⟨trivial, List.forall_mem_cons.mpr ⟨trivial, fun _ h => nomatch h⟩⟩⟩⟩⟩⟩⟩⟩⟩⟩⟩⟩⟩⟩⟩⟩⟩⟩⟩
theorem m_dec_87 : (mt_87.all fun r => decide (decode (m_b 87) r.1 = .ok (r.2.1, m_len r.2.1)) && m_jumpb r.1 r.2.1 r.2.2.1) = true := by decide +kernel
set_option maxRecDepth 20000 in
theorem m_wrd_87 : ∀ r ∈ mt_87, m_okw 87 r.1 r.2.1 r.2.2.1 r.2.2.2 := List.forall_mem_cons.mpr ⟨trivial, List.forall_mem_cons.mpr ⟨trivial, List.forall_mem_cons.mpr ⟨trivial, List.forall_mem_cons.mpr ⟨trivial, List.forall_mem_cons.mpr ⟨trivial, List.forall_mem_cons.mpr ⟨trivial, List.forall_mem_cons.mpr ⟨⟨m_fact_30, (Or.inl mw_287), mw_288, mw_289⟩, List.forall_mem_cons.mpr ⟨trivial, List.forall_mem_cons.mpr ⟨trivial, List.forall_mem_cons.mpr ⟨trivial, List.forall_mem_cons.mpr ⟨trivial, List.forall_mem_cons.mpr ⟨trivial, List.forall_mem_cons.mpr ⟨trivial, List.forall_mem_cons.mpr ⟨trivial, List.forall_mem_cons.mpr ⟨trivial, List.forall_mem_cons.mpr ⟨trivial, List.forall_mem_cons.mpr ⟨trivial, List.forall_mem_cons.mpr ⟨trivial, fun _ h => nomatch h⟩⟩⟩⟩⟩⟩⟩⟩⟩⟩⟩⟩⟩⟩⟩⟩⟩⟩
theorem m_dec_88 : (mt_88.all fun r => decide (decode (m_b 88) r.1 = .ok (r.2.1, m_len r.2.1)) && m_jumpb r.1 r.2.1 r.2.2.1) = true := by decide +kernel
set_option maxRecDepth 20000 in
theorem m_wrd_88 : ∀ r ∈ mt_88, m_okw 88 r.1 r.2.1 r.2.2.1 r.2.2.2 := List.forall_mem_cons.mpr ⟨trivial, List.forall_mem_cons.mpr ⟨trivial, List.forall_mem_cons.mpr ⟨trivial, List.forall_mem_cons.mpr ⟨trivial, List.forall_mem_cons.mpr ⟨trivial, List.forall_mem_cons.mpr ⟨trivial, List.forall_mem_cons.mpr ⟨⟨m_fact_31, (Or.inl mw_360), mw_361, mw_362⟩, List.forall_mem_cons.mpr ⟨trivial, List.forall_mem_cons.mpr ⟨trivial, List.forall_mem_cons.mpr ⟨trivial, List.forall_mem_cons.mpr ⟨trivial, List.forall_mem_cons.mpr ⟨trivial, List.forall_mem_cons.mpr ⟨trivial, List.forall_mem_cons.mpr ⟨trivial, List.forall_mem_cons.mpr ⟨trivial, List.forall_mem_cons.mpr ⟨trivial, List.forall_mem_cons.mpr ⟨trivial, List.forall_mem_cons.mpr ⟨trivial, fun _ h => nomatch h⟩⟩⟩⟩⟩⟩⟩⟩⟩⟩⟩⟩⟩⟩⟩⟩⟩⟩
theorem m_dec_89 : (mt_89.all fun r => decide (decode (m_b 89) r.1 = .ok (r.2.1, m_len r.2.1)) && m_jumpb r.1 r.2.1 r.2.2.1) = true := by decide +kernel
set_option maxRecDepth 20000 in
theorem m_wrd_89 : ∀ r ∈ mt_89, m_okw 89 r.1 r.2.1 r.2.2.1 r.2.2.2 := List.forall_mem_cons.mpr ⟨trivial, List.forall_mem_cons.mpr ⟨trivial, List.forall_mem_cons.mpr ⟨trivial, List.forall_mem_cons.mpr ⟨trivial, List.forall_mem_cons.mpr ⟨⟨m_fact_32, (Or.inl mw_368), mw_369, mw_370⟩, List.forall_mem_cons.mpr ⟨trivial, List.forall_mem_cons.mpr ⟨trivial, List.forall_mem_cons.mpr ⟨trivial, List.forall_mem_cons.mpr ⟨trivial, List.forall_mem_cons.mpr ⟨trivial, List.forall_mem_cons.mpr ⟨trivial, List.forall_mem_cons.mpr ⟨trivial, List.forall_mem_cons.mpr ⟨trivial, List.forall_mem_cons.mpr ⟨trivial, List.forall_mem_cons.mpr ⟨trivial, List.forall_mem_cons.mpr ⟨trivial, fun _ h => nomatch h⟩⟩⟩⟩⟩⟩⟩⟩⟩⟩⟩⟩⟩⟩⟩⟩
theorem m_dec_90 : (mt_90.all fun r => decide (decode (m_b 90) r.1 = .ok (r.2.1, m_len r.2.1)) && m_jumpb r.1 r.2.1 r.2.2.1) = true := by decide +kernel
set_option maxRecDepth 20000 in
theorem m_wrd_90 : ∀ r ∈ mt_90, m_okw 90 r.1 r.2.1 r.2.2.1 r.2.2.2 := List.forall_mem_cons.mpr ⟨trivial, List.forall_mem_cons.mpr ⟨trivial, List.forall_mem_cons.mpr ⟨trivial, List.forall_mem_cons.mpr ⟨trivial, List.forall_mem_cons.mpr ⟨trivial, List.forall_mem_cons.mpr ⟨⟨m_fact_33, (Or.inl mw_408), mw_409, mw_410⟩, List.forall_mem_cons.mpr ⟨trivial, List.forall_mem_cons.mpr ⟨trivial, List.forall_mem_cons.mpr ⟨trivial, List.forall_mem_cons.mpr ⟨trivial, List.forall_mem_cons.mpr ⟨trivial, List.forall_mem_cons.mpr ⟨trivial, List.forall_mem_cons.mpr ⟨trivial, List.forall_mem_cons.mpr ⟨trivial, fun _ h => nomatch h⟩⟩⟩⟩⟩⟩⟩⟩⟩⟩⟩⟩⟩⟩
theorem m_dec_91 : (mt_91.all fun r => decide (decode (m_b 91) r.1 = .ok (r.2.1, m_len r.2.1)) && m_jumpb r.1 r.2.1 r.2.2.1) = true := by decide +kernel
set_option maxRecDepth 20000 in
theorem m_wrd_91 : ∀ r ∈ mt_91, m_okw 91 r.1 r.2.1 r.2.2.1 r.2.2.2 := List.forall_mem_cons.mpr ⟨trivial, List.forall_mem_cons.mpr ⟨trivial, List.forall_mem_cons.mpr ⟨trivial, List.forall_mem_cons.mpr ⟨⟨m_fact_34, (Or.inl mw_432), mw_433, mw_434⟩, List.forall_mem_cons.mpr ⟨trivial, List.forall_mem_cons.mpr ⟨trivial, List.forall_mem_cons.mpr ⟨trivial, List.forall_mem_cons.mpr ⟨trivial, List.forall_mem_cons.mpr ⟨trivial, List.forall_mem_cons.mpr ⟨trivial, List.forall_mem_cons.mpr ⟨trivial, List.forall_mem_cons.mpr ⟨trivial, fun _ h => nomatch h⟩⟩⟩⟩⟩⟩⟩⟩⟩⟩⟩⟩
theorem m_dec_92_0 : (mt_92_0.all fun r => decide (decode (m_b 92) r.1 = .ok (r.2.1, m_len r.2.1)) && m_jumpb r.1 r.2.1 r.2.2.1) = true := by decide +kernel
set_option maxRecDepth 20000 in
theorem m_wrd_92_0 : ∀ r ∈ mt_92_0, m_okw 92 r.1 r.2.1 r.2.2.1 r.2.2.2 := List.forall_mem_cons.mpr ⟨⟨fun _ => ⟨_, rfl, mw_13, mw_14, mw_1⟩, (fun h => nomatch h)⟩, List.forall_mem_cons.mpr ⟨trivial, List.forall_mem_cons.mpr ⟨⟨fun h => absurd h (by decide), fun _ => ⟨m_fact_26, (Or.inl mw_15), mw_16, mw_17, rfl⟩⟩, List.forall_mem_cons.mpr ⟨trivial, List.forall_mem_cons.mpr ⟨⟨fun _ => ⟨_, rfl, mw_437, mw_438, mw_4⟩, (fun h => nomatch h)⟩, List.forall_mem_cons.mpr ⟨trivial, List.forall_mem_cons.mpr ⟨⟨fun h => absurd h (by decide), fun _ => ⟨m_fact_52, (Or.inl mw_439), mw_440, mw_441, rfl⟩⟩, List.forall_mem_cons.mpr ⟨trivial, List.forall_mem_cons.mpr ⟨trivial, List.forall_mem_cons.mpr ⟨mw_617, List.forall_mem_cons.mpr ⟨trivial, List.forall_mem_cons.mpr ⟨trivial, List.forall_mem_cons.mpr ⟨trivial, List.forall_mem_cons.mpr ⟨trivial, List.forall_mem_cons.mpr ⟨trivial, List.forall_mem_cons.mpr ⟨trivial, List.forall_mem_cons.mpr ⟨trivial, List.forall_mem_cons.mpr ⟨trivial, List.forall_mem_cons.mpr ⟨trivial, List.forall_mem_cons.mpr ⟨trivial, List.forall_mem_cons.mpr ⟨trivial, List.forall_mem_cons.mpr ⟨trivial, List.forall_mem_cons.mpr ⟨trivial, List.forall_mem_cons.mpr ⟨trivial, List.forall_mem_cons.mpr ⟨trivial, List.forall_mem_cons.mpr ⟨trivial, List.forall_mem_cons.mpr ⟨trivial, List.forall_mem_cons.mpr ⟨trivial, List.forall_mem_cons.mpr ⟨trivial, List.forall_mem_cons.mpr ⟨trivial, List.forall_mem_cons.mpr ⟨trivial, List.forall_mem_cons.mpr ⟨trivial, List.forall_mem_cons.mpr ⟨trivial, List.forall_mem_cons.mpr ⟨trivial, List.forall_mem_cons.mpr ⟨trivial, List.forall_mem_cons.mpr ⟨trivial, List.forall_mem_cons.mpr ⟨trivial, List.forall_mem_cons.mpr ⟨⟨fun h => absurd h (by decide), fun _ => ⟨m_fact_85, (Or.inl mw_166), mw_167⟩⟩, List.forall_mem_cons.mpr ⟨trivial, List.forall_mem_cons.mpr ⟨trivial, List.forall_mem_cons.mpr ⟨trivial, List.forall_mem_cons.mpr ⟨trivial, List.forall_mem_cons.mpr ⟨trivial, List.forall_mem_cons.mpr ⟨trivial, List.forall_mem_cons.mpr ⟨trivial, List.forall_mem_cons.mpr ⟨trivial, List.forall_mem_cons.mpr ⟨trivial, List.forall_mem_cons.mpr ⟨trivial, List.forall_mem_cons.mpr ⟨trivial, List.forall_mem_cons.mpr ⟨trivial, List.forall_mem_cons.mpr ⟨⟨m_fact_65, (Or.inl mw_494), mw_495, mw_496⟩, List.forall_mem_cons.mpr ⟨trivial, List.forall_mem_cons.mpr ⟨trivial, List.forall_mem_cons.mpr ⟨⟨m_fact_53, (Or.inl mw_490), mw_491, mw_492⟩, List.forall_mem_cons.mpr ⟨trivial, List.forall_mem_cons.mpr ⟨trivial, List.forall_mem_cons.mpr ⟨trivial, List.forall_mem_cons.mpr ⟨trivial, List.forall_mem_cons.mpr ⟨trivial, List.forall_mem_cons.mpr ⟨trivial, fun _ h => nomatch h⟩⟩⟩⟩⟩⟩⟩⟩⟩⟩⟩⟩⟩⟩⟩⟩⟩⟩⟩⟩⟩⟩⟩⟩⟩⟩⟩⟩⟩⟩⟩⟩⟩⟩⟩⟩⟩⟩⟩⟩⟩⟩⟩⟩⟩⟩⟩⟩⟩⟩⟩⟩⟩⟩⟩⟩⟩⟩⟩⟩
theorem m_dec_92_1 : (mt_92_1.all fun r => decide (decode (m_b 92) r.1 = .ok (r.2.1, m_len r.2.1)) && m_jumpb r.1 r.2.1 r.2.2.1) = true := by decide +kernel
set_option maxRecDepth 20000 in
theorem m_wrd_92_1 : ∀ r ∈ mt_92_1, m_okw 92 r.1 r.2.1 r.2.2.1 r.2.2.2 := List.forall_mem_cons.mpr ⟨trivial, List.forall_mem_cons.mpr ⟨trivial, List.forall_mem_cons.mpr ⟨trivial, List.forall_mem_cons.mpr ⟨trivial, List.forall_mem_cons.mpr ⟨trivial, List.forall_mem_cons.mpr ⟨trivial, List.forall_mem_cons.mpr ⟨trivial, List.forall_mem_cons.mpr ⟨trivial, List.forall_mem_cons.mpr ⟨trivial, List.forall_mem_cons.mpr ⟨trivial, List.forall_mem_cons.mpr ⟨trivial, List.forall_mem_cons.mpr ⟨trivial, List.forall_mem_cons.mpr ⟨trivial, List.forall_mem_cons.mpr ⟨trivial, List.forall_mem_cons.mpr ⟨trivial, List.forall_mem_cons.mpr ⟨trivial, List.forall_mem_cons.mpr ⟨trivial, List.forall_mem_cons.mpr ⟨trivial, List.forall_mem_cons.mpr ⟨trivial, List.forall_mem_cons.mpr ⟨trivial, List.forall_mem_cons.mpr ⟨trivial, List.forall_mem_cons.mpr ⟨trivial, List.forall_mem_cons.mpr ⟨trivial, List.forall_mem_cons.mpr ⟨trivial, List.forall_mem_cons.mpr ⟨trivial, List.forall_mem_cons.mpr ⟨trivial, List.forall_mem_cons.mpr ⟨trivial, List.forall_mem_cons.mpr ⟨trivial, List.forall_mem_cons.mpr ⟨trivial, List.forall_mem_cons.mpr ⟨trivial, List.forall_mem_cons.mpr ⟨trivial, List.forall_mem_cons.mpr ⟨trivial, List.forall_mem_cons.mpr ⟨⟨fun h => absurd h (by decide), fun _ => ⟨m_fact_86, (Or.inl mw_265), mw_266⟩⟩, List.forall_mem_cons.mpr ⟨trivial, List.forall_mem_cons.mpr ⟨trivial, List.forall_mem_cons.mpr ⟨trivial, List.forall_mem_cons.mpr ⟨trivial, List.forall_mem_cons.mpr ⟨trivial, List.forall_mem_cons.mpr ⟨trivial, List.forall_mem_cons.mpr ⟨trivial, List.forall_mem_cons.mpr ⟨trivial, List.forall_mem_cons.mpr ⟨trivial, List.forall_mem_cons.mpr ⟨trivial, List.forall_mem_cons.mpr ⟨trivial, List.forall_mem_cons.mpr ⟨trivial, List.forall_mem_cons.mpr ⟨trivial, List.forall_mem_cons.mpr ⟨trivial, List.forall_mem_cons.mpr ⟨trivial, List.forall_mem_cons.mpr ⟨trivial, List.forall_mem_cons.mpr ⟨trivial, List.forall_mem_cons.mpr ⟨trivial, List.forall_mem_cons.mpr ⟨trivial, List.forall_mem_cons.mpr ⟨trivial, List.forall_mem_cons.mpr ⟨trivial, List.forall_mem_cons.mpr ⟨trivial, List.forall_mem_cons.mpr ⟨⟨m_fact_66, (Or.inl mw_498), mw_499, mw_500⟩, List.forall_mem_cons.mpr ⟨trivial, List.forall_mem_cons.mpr ⟨trivial, List.forall_mem_cons.mpr ⟨⟨m_fact_53, (Or.inl mw_490), mw_491, mw_492⟩, List.forall_mem_cons.mpr ⟨trivial, fun _ h => nomatch h⟩⟩⟩⟩⟩⟩⟩⟩⟩⟩⟩⟩⟩⟩⟩⟩⟩⟩⟩⟩⟩⟩⟩⟩⟩⟩⟩⟩⟩⟩⟩⟩⟩⟩⟩⟩⟩⟩⟩⟩⟩⟩⟩⟩⟩⟩⟩⟩⟩⟩⟩⟩⟩⟩⟩⟩⟩⟩⟩⟩
theorem m_dec_92_2 : (mt_92_2.all fun r => decide (decode (m_b 92) r.1 = .ok (r.2.1, m_len r.2.1)) && m_jumpb r.1 r.2.1 r.2.2.1) = true := by decide +kernel
set_option maxRecDepth 20000 in
theorem m_wrd_92_2 : ∀ r ∈ mt_92_2, m_okw 92 r.1 r.2.1 r.2.2.1 r.2.2.2 := List.forall_mem_cons.mpr ⟨trivial, List.forall_mem_cons.mpr ⟨trivial, List.forall_mem_cons.mpr ⟨trivial, List.forall_mem_cons.mpr ⟨trivial, List.forall_mem_cons.mpr ⟨trivial, List.forall_mem_cons.mpr ⟨trivial, List.forall_mem_cons.mpr ⟨trivial, List.forall_mem_cons.mpr ⟨trivial, List.forall_mem_cons.mpr ⟨trivial, List.forall_mem_cons.mpr ⟨trivial, List.forall_mem_cons.mpr ⟨trivial, List.forall_mem_cons.mpr ⟨trivial, List.forall_mem_cons.mpr ⟨trivial, List.forall_mem_cons.mpr ⟨trivial, List.forall_mem_cons.mpr ⟨trivial, List.forall_mem_cons.mpr ⟨trivial, List.forall_mem_cons.mpr ⟨⟨m_fact_29, (Or.inl mw_84), mw_85, mw_86⟩, List.forall_mem_cons.mpr ⟨trivial, List.forall_mem_cons.mpr ⟨⟨m_fact_67, (Or.inl mw_518), mw_519, mw_520⟩, List.forall_mem_cons.mpr ⟨trivial, List.forall_mem_cons.mpr ⟨trivial, List.forall_mem_cons.mpr ⟨trivial, List.forall_mem_cons.mpr ⟨trivial, List.forall_mem_cons.mpr ⟨trivial, List.forall_mem_cons.mpr ⟨trivial, List.forall_mem_cons.mpr ⟨trivial, List.forall_mem_cons.mpr ⟨trivial, List.forall_mem_cons.mpr ⟨trivial, List.forall_mem_cons.mpr ⟨trivial, List.forall_mem_cons.mpr ⟨trivial, List.forall_mem_cons.mpr ⟨trivial, List.forall_mem_cons.mpr ⟨trivial, List.forall_mem_cons.mpr ⟨trivial, List.forall_mem_cons.mpr ⟨trivial, List.forall_mem_cons.mpr ⟨trivial, List.forall_mem_cons.mpr ⟨trivial, List.forall_mem_cons.mpr ⟨trivial, List.forall_mem_cons.mpr ⟨trivial, List.forall_mem_cons.mpr ⟨trivial, List.forall_mem_cons.mpr ⟨⟨fun h => absurd h (by decide), fun _ => ⟨m_fact_87, (Or.inl mw_284), mw_285⟩⟩, List.forall_mem_cons.mpr ⟨trivial, List.forall_mem_cons.mpr ⟨trivial, List.forall_mem_cons.mpr ⟨trivial, List.forall_mem_cons.mpr ⟨trivial, List.forall_mem_cons.mpr ⟨trivial, List.forall_mem_cons.mpr ⟨trivial, List.forall_mem_cons.mpr ⟨trivial, List.forall_mem_cons.mpr ⟨trivial, List.forall_mem_cons.mpr ⟨trivial, List.forall_mem_cons.mpr ⟨trivial, List.forall_mem_cons.mpr ⟨trivial, List.forall_mem_cons.mpr ⟨trivial, List.forall_mem_cons.mpr ⟨trivial, List.forall_mem_cons.mpr ⟨trivial, List.forall_mem_cons.mpr ⟨trivial, List.forall_mem_cons.mpr ⟨trivial, List.forall_mem_cons.mpr ⟨trivial, List.forall_mem_cons.mpr ⟨⟨m_fact_69, (Or.inl mw_522), mw_523, mw_524⟩, List.forall_mem_cons.mpr ⟨trivial, List.forall_mem_cons.mpr ⟨trivial, fun _ h => nomatch h⟩⟩⟩⟩⟩⟩⟩⟩⟩⟩⟩⟩⟩⟩⟩⟩⟩⟩⟩⟩⟩⟩⟩⟩⟩⟩⟩⟩⟩⟩⟩⟩⟩⟩⟩⟩⟩⟩⟩⟩⟩⟩⟩⟩⟩⟩⟩⟩⟩⟩⟩⟩⟩⟩⟩⟩⟩⟩⟩⟩
theorem m_dec_92_3 : (mt_92_3.all fun r => decide (decode (m_b 92) r.1 = .ok (r.2.1, m_len r.2.1)) && m_jumpb r.1 r.2.1 r.2.2.1) = true := by decide +kernel
set_option maxRecDepth 20000 in
theorem m_wrd_92_3 : ∀ r ∈ mt_92_3, m_okw 92 r.1 r.2.1 r.2.2.1 r.2.2.2 := List.forall_mem_cons.mpr ⟨⟨m_fact_53, (Or.inl mw_490), mw_491, mw_492⟩, List.forall_mem_cons.mpr ⟨trivial, List.forall_mem_cons.mpr ⟨trivial, List.forall_mem_cons.mpr ⟨trivial, List.forall_mem_cons.mpr ⟨trivial, List.forall_mem_cons.mpr ⟨trivial, List.forall_mem_cons.mpr ⟨trivial, List.forall_mem_cons.mpr ⟨trivial, List.forall_mem_cons.mpr ⟨trivial, List.forall_mem_cons.mpr ⟨trivial, List.forall_mem_cons.mpr ⟨trivial, List.forall_mem_cons.mpr ⟨trivial, List.forall_mem_cons.mpr ⟨trivial, List.forall_mem_cons.mpr ⟨trivial, List.forall_mem_cons.mpr ⟨trivial, List.forall_mem_cons.mpr ⟨trivial, List.forall_mem_cons.mpr ⟨trivial, List.forall_mem_cons.mpr ⟨trivial, List.forall_mem_cons.mpr ⟨trivial, List.forall_mem_cons.mpr ⟨trivial, List.forall_mem_cons.mpr ⟨trivial, List.forall_mem_cons.mpr ⟨trivial, List.forall_mem_cons.mpr ⟨trivial, List.forall_mem_cons.mpr ⟨trivial, List.forall_mem_cons.mpr ⟨trivial, List.forall_mem_cons.mpr ⟨trivial, List.forall_mem_cons.mpr ⟨trivial, List.forall_mem_cons.mpr ⟨trivial, List.forall_mem_cons.mpr ⟨trivial, List.forall_mem_cons.mpr ⟨trivial, List.forall_mem_cons.mpr ⟨trivial, List.forall_mem_cons.mpr ⟨trivial, List.forall_mem_cons.mpr ⟨trivial, List.forall_mem_cons.mpr ⟨trivial, List.forall_mem_cons.mpr ⟨⟨fun h => absurd h (by decide), fun _ => ⟨m_fact_88, (Or.inl mw_357), mw_358⟩⟩, List.forall_mem_cons.mpr ⟨trivial, List.forall_mem_cons.mpr ⟨trivial, List.forall_mem_cons.mpr ⟨trivial, List.forall_mem_cons.mpr ⟨trivial, List.forall_mem_cons.mpr ⟨trivial, List.forall_mem_cons.mpr ⟨trivial, List.forall_mem_cons.mpr ⟨trivial, List.forall_mem_cons.mpr ⟨trivial, List.forall_mem_cons.mpr ⟨trivial, List.forall_mem_cons.mpr ⟨trivial, List.forall_mem_cons.mpr ⟨trivial, List.forall_mem_cons.mpr ⟨trivial, List.forall_mem_cons.mpr ⟨trivial, List.forall_mem_cons.mpr ⟨trivial, List.forall_mem_cons.mpr ⟨trivial, List.forall_mem_cons.mpr ⟨trivial, List.forall_mem_cons.mpr ⟨trivial, List.forall_mem_cons.mpr ⟨⟨m_fact_70, (Or.inl mw_554), mw_555, mw_556⟩, List.forall_mem_cons.mpr ⟨trivial, List.forall_mem_cons.mpr ⟨trivial, List.forall_mem_cons.mpr ⟨⟨m_fact_53, (Or.inl mw_490), mw_491, mw_492⟩, List.forall_mem_cons.mpr ⟨trivial, List.forall_mem_cons.mpr ⟨trivial, List.forall_mem_cons.mpr ⟨trivial, List.forall_mem_cons.mpr ⟨trivial, fun _ h => nomatch h⟩⟩⟩⟩⟩⟩⟩⟩⟩⟩⟩⟩⟩⟩⟩⟩⟩⟩⟩⟩⟩⟩⟩⟩⟩⟩⟩⟩⟩⟩⟩⟩⟩⟩⟩⟩⟩⟩⟩⟩⟩⟩⟩⟩⟩⟩⟩⟩⟩⟩⟩⟩⟩⟩⟩⟩⟩⟩⟩⟩
theorem m_dec_92_4 : (mt_92_4.all fun r => decide (decode (m_b 92) r.1 = .ok (r.2.1, m_len r.2.1)) && m_jumpb r.1 r.2.1 r.2.2.1) = true := by decide +kernel
set_option maxRecDepth 20000 in
theorem m_wrd_92_4 : ∀ r ∈ mt_92_4, m_okw 92 r.1 r.2.1 r.2.2.1 r.2.2.2 := List.forall_mem_cons.mpr ⟨trivial, List.forall_mem_cons.mpr ⟨trivial, List.forall_mem_cons.mpr ⟨trivial, List.forall_mem_cons.mpr ⟨trivial, List.forall_mem_cons.mpr ⟨trivial, List.forall_mem_cons.mpr ⟨trivial, List.forall_mem_cons.mpr ⟨trivial, List.forall_mem_cons.mpr ⟨trivial, List.forall_mem_cons.mpr ⟨trivial, List.forall_mem_cons.mpr ⟨trivial, List.forall_mem_cons.mpr ⟨trivial, List.forall_mem_cons.mpr ⟨trivial, List.forall_mem_cons.mpr ⟨trivial, List.forall_mem_cons.mpr ⟨trivial, List.forall_mem_cons.mpr ⟨trivial, List.forall_mem_cons.mpr ⟨trivial, List.forall_mem_cons.mpr ⟨trivial, List.forall_mem_cons.mpr ⟨trivial, List.forall_mem_cons.mpr ⟨trivial, List.forall_mem_cons.mpr ⟨⟨fun h => absurd h (by decide), fun _ => ⟨m_fact_89, (Or.inl mw_364), mw_365⟩⟩, List.forall_mem_cons.mpr ⟨trivial, List.forall_mem_cons.mpr ⟨trivial, List.forall_mem_cons.mpr ⟨trivial, List.forall_mem_cons.mpr ⟨trivial, List.forall_mem_cons.mpr ⟨trivial, List.forall_mem_cons.mpr ⟨trivial, List.forall_mem_cons.mpr ⟨trivial, List.forall_mem_cons.mpr ⟨⟨m_fact_74, (Or.inl mw_558), mw_559, mw_560⟩, List.forall_mem_cons.mpr ⟨trivial, List.forall_mem_cons.mpr ⟨trivial, List.forall_mem_cons.mpr ⟨⟨m_fact_53, (Or.inl mw_490), mw_491, mw_492⟩, List.forall_mem_cons.mpr ⟨trivial, List.forall_mem_cons.mpr ⟨trivial, List.forall_mem_cons.mpr ⟨trivial, List.forall_mem_cons.mpr ⟨trivial, List.forall_mem_cons.mpr ⟨trivial, List.forall_mem_cons.mpr ⟨trivial, List.forall_mem_cons.mpr ⟨trivial, List.forall_mem_cons.mpr ⟨trivial, List.forall_mem_cons.mpr ⟨trivial, List.forall_mem_cons.mpr ⟨trivial, List.forall_mem_cons.mpr ⟨trivial, List.forall_mem_cons.mpr ⟨trivial, List.forall_mem_cons.mpr ⟨trivial, List.forall_mem_cons.mpr ⟨trivial, List.forall_mem_cons.mpr ⟨trivial, List.forall_mem_cons.mpr ⟨trivial, List.forall_mem_cons.mpr ⟨trivial, List.forall_mem_cons.mpr ⟨trivial, List.forall_mem_cons.mpr ⟨trivial, List.forall_mem_cons.mpr ⟨trivial, List.forall_mem_cons.mpr ⟨trivial, List.forall_mem_cons.mpr ⟨trivial, List.forall_mem_cons.mpr ⟨trivial, List.forall_mem_cons.mpr ⟨trivial, List.forall_mem_cons.mpr ⟨trivial, List.forall_mem_cons.mpr ⟨trivial, List.forall_mem_cons.mpr ⟨trivial, List.forall_mem_cons.mpr ⟨trivial, List.forall_mem_cons.mpr ⟨⟨fun h => absurd h (by decide), fun _ => ⟨m_fact_90, (Or.inl mw_405), mw_406⟩⟩, fun _ h => nomatch h⟩⟩⟩⟩⟩⟩⟩⟩⟩⟩⟩⟩⟩⟩⟩⟩⟩⟩⟩⟩⟩⟩⟩⟩⟩⟩⟩⟩⟩⟩⟩⟩⟩⟩⟩⟩⟩⟩⟩⟩⟩⟩⟩⟩⟩⟩⟩⟩⟩⟩⟩⟩⟩⟩⟩⟩⟩⟩⟩⟩
theorem m_dec_92_5 : (mt_92_5.all fun r => decide (decode (m_b 92) r.1 = .ok (r.2.1, m_len r.2.1)) && m_jumpb r.1 r.2.1 r.2.2.1) = true := by decide +kernel
set_option maxRecDepth 20000 in
theorem m_wrd_92_5 : ∀ r ∈ mt_92_5, m_okw 92 r.1 r.2.1 r.2.2.1 r.2.2.2 := List.forall_mem_cons.mpr ⟨trivial, List.forall_mem_cons.mpr ⟨trivial, List.forall_mem_cons.mpr ⟨trivial, List.forall_mem_cons.mpr ⟨trivial, List.forall_mem_cons.mpr ⟨trivial, List.forall_mem_cons.mpr ⟨trivial, List.forall_mem_cons.mpr ⟨trivial, List.forall_mem_cons.mpr ⟨trivial, List.forall_mem_cons.mpr ⟨trivial, List.forall_mem_cons.mpr ⟨trivial, List.forall_mem_cons.mpr ⟨trivial, List.forall_mem_cons.mpr ⟨trivial, List.forall_mem_cons.mpr ⟨⟨m_fact_75, (Or.inl mw_574), mw_575, mw_576⟩, List.forall_mem_cons.mpr ⟨trivial, List.forall_mem_cons.mpr ⟨trivial, List.forall_mem_cons.mpr ⟨⟨m_fact_53, (Or.inl mw_490), mw_491, mw_492⟩, List.forall_mem_cons.mpr ⟨trivial, List.forall_mem_cons.mpr ⟨trivial, List.forall_mem_cons.mpr ⟨trivial, List.forall_mem_cons.mpr ⟨trivial, List.forall_mem_cons.mpr ⟨trivial, List.forall_mem_cons.mpr ⟨trivial, List.forall_mem_cons.mpr ⟨trivial, List.forall_mem_cons.mpr ⟨trivial, List.forall_mem_cons.mpr ⟨trivial, List.forall_mem_cons.mpr ⟨trivial, List.forall_mem_cons.mpr ⟨trivial, List.forall_mem_cons.mpr ⟨trivial, List.forall_mem_cons.mpr ⟨trivial, List.forall_mem_cons.mpr ⟨trivial, List.forall_mem_cons.mpr ⟨trivial, List.forall_mem_cons.mpr ⟨trivial, List.forall_mem_cons.mpr ⟨trivial, List.forall_mem_cons.mpr ⟨trivial, List.forall_mem_cons.mpr ⟨⟨fun h => absurd h (by decide), fun _ => ⟨m_fact_91, (Or.inl mw_429), mw_430⟩⟩, List.forall_mem_cons.mpr ⟨trivial, List.forall_mem_cons.mpr ⟨trivial, List.forall_mem_cons.mpr ⟨⟨m_fact_76, (Or.inl mw_578), mw_579, mw_580⟩, List.forall_mem_cons.mpr ⟨trivial, List.forall_mem_cons.mpr ⟨trivial, List.forall_mem_cons.mpr ⟨⟨m_fact_53, (Or.inl mw_490), mw_491, mw_492⟩, List.forall_mem_cons.mpr ⟨trivial, List.forall_mem_cons.mpr ⟨trivial, List.forall_mem_cons.mpr ⟨trivial, List.forall_mem_cons.mpr ⟨trivial, List.forall_mem_cons.mpr ⟨trivial, List.forall_mem_cons.mpr ⟨trivial, List.forall_mem_cons.mpr ⟨trivial, List.forall_mem_cons.mpr ⟨trivial, List.forall_mem_cons.mpr ⟨trivial, List.forall_mem_cons.mpr ⟨trivial, List.forall_mem_cons.mpr ⟨trivial, List.forall_mem_cons.mpr ⟨trivial, List.forall_mem_cons.mpr ⟨trivial, List.forall_mem_cons.mpr ⟨trivial, List.forall_mem_cons.mpr ⟨trivial, List.forall_mem_cons.mpr ⟨trivial, List.forall_mem_cons.mpr ⟨trivial, List.forall_mem_cons.mpr ⟨trivial, List.forall_mem_cons.mpr ⟨trivial, fun _ h => nomatch h⟩⟩⟩⟩⟩⟩⟩⟩⟩⟩⟩⟩⟩⟩⟩⟩⟩⟩⟩⟩⟩⟩⟩⟩⟩⟩⟩⟩⟩⟩⟩⟩⟩⟩⟩⟩⟩⟩⟩⟩⟩⟩⟩⟩⟩⟩⟩⟩⟩⟩⟩⟩⟩⟩⟩⟩⟩⟩⟩⟩
theorem m_dec_92_6 : (mt_92_6.all fun r => decide (decode (m_b 92) r.1 = .ok (r.2.1, m_len r.2.1)) && m_jumpb r.1 r.2.1 r.2.2.1) = true := by decide +kernel
set_option maxRecDepth 20000 in
theorem m_wrd_92_6 : ∀ r ∈ mt_92_6, m_okw 92 r.1 r.2.1 r.2.2.1 r.2.2.2 := List.forall_mem_cons.mpr ⟨trivial, List.forall_mem_cons.mpr ⟨trivial, List.forall_mem_cons.mpr ⟨trivial, List.forall_mem_cons.mpr ⟨⟨m_fact_35, (Or.inl mw_88), mw_89, mw_90⟩, List.forall_mem_cons.mpr ⟨trivial, List.forall_mem_cons.mpr ⟨trivial, List.forall_mem_cons.mpr ⟨trivial, List.forall_mem_cons.mpr ⟨trivial, List.forall_mem_cons.mpr ⟨trivial, List.forall_mem_cons.mpr ⟨trivial, List.forall_mem_cons.mpr ⟨⟨m_fact_77, (Or.inl mw_582), mw_583, mw_584⟩, List.forall_mem_cons.mpr ⟨trivial, List.forall_mem_cons.mpr ⟨trivial, List.forall_mem_cons.mpr ⟨trivial, List.forall_mem_cons.mpr ⟨trivial, List.forall_mem_cons.mpr ⟨trivial, List.forall_mem_cons.mpr ⟨trivial, List.forall_mem_cons.mpr ⟨trivial, List.forall_mem_cons.mpr ⟨trivial, List.forall_mem_cons.mpr ⟨trivial, List.forall_mem_cons.mpr ⟨⟨m_fact_36, (Or.inl mw_100), mw_101, mw_102⟩, List.forall_mem_cons.mpr ⟨trivial, List.forall_mem_cons.mpr ⟨trivial, List.forall_mem_cons.mpr ⟨trivial, List.forall_mem_cons.mpr ⟨trivial, List.forall_mem_cons.mpr ⟨trivial, List.forall_mem_cons.mpr ⟨trivial, List.forall_mem_cons.mpr ⟨⟨m_fact_78, (Or.inl mw_586), mw_587, mw_588⟩, List.forall_mem_cons.mpr ⟨trivial, List.forall_mem_cons.mpr ⟨trivial, List.forall_mem_cons.mpr ⟨trivial, List.forall_mem_cons.mpr ⟨trivial, List.forall_mem_cons.mpr ⟨trivial, List.forall_mem_cons.mpr ⟨trivial, List.forall_mem_cons.mpr ⟨trivial, List.forall_mem_cons.mpr ⟨trivial, List.forall_mem_cons.mpr ⟨trivial, List.forall_mem_cons.mpr ⟨⟨m_fact_37, (Or.inl mw_108), mw_109, mw_110⟩, List.forall_mem_cons.mpr ⟨trivial, List.forall_mem_cons.mpr ⟨trivial, List.forall_mem_cons.mpr ⟨trivial, List.forall_mem_cons.mpr ⟨trivial, List.forall_mem_cons.mpr ⟨trivial, List.forall_mem_cons.mpr ⟨trivial, List.forall_mem_cons.mpr ⟨⟨m_fact_79, (Or.inl mw_590), mw_591, mw_592⟩, List.forall_mem_cons.mpr ⟨trivial, List.forall_mem_cons.mpr ⟨trivial, List.forall_mem_cons.mpr ⟨trivial, List.forall_mem_cons.mpr ⟨trivial, List.forall_mem_cons.mpr ⟨trivial, List.forall_mem_cons.mpr ⟨trivial, List.forall_mem_cons.mpr ⟨trivial, List.forall_mem_cons.mpr ⟨trivial, List.forall_mem_cons.mpr ⟨trivial, List.forall_mem_cons.mpr ⟨trivial, List.forall_mem_cons.mpr ⟨trivial, List.forall_mem_cons.mpr ⟨trivial, List.forall_mem_cons.mpr ⟨trivial, List.forall_mem_cons.mpr ⟨trivial, List.forall_mem_cons.mpr ⟨⟨m_fact_38, (Or.inl mw_112), mw_113, mw_114⟩, fun _ h => nomatch h⟩⟩⟩⟩⟩⟩⟩⟩⟩⟩⟩⟩⟩⟩⟩⟩⟩⟩⟩⟩⟩⟩⟩⟩⟩⟩⟩⟩⟩⟩⟩⟩⟩⟩⟩⟩⟩⟩⟩⟩⟩⟩⟩⟩⟩⟩⟩⟩⟩⟩⟩⟩⟩⟩⟩⟩⟩⟩⟩⟩
theorem m_dec_92_7 : (mt_92_7.all fun r => decide (decode (m_b 92) r.1 = .ok (r.2.1, m_len r.2.1)) && m_jumpb r.1 r.2.1 r.2.2.1) = true := by decide +kernel
set_option maxRecDepth 20000 in
theorem m_wrd_92_7 : ∀ r ∈ mt_92_7, m_okw 92 r.1 r.2.1 r.2.2.1 r.2.2.2 := List.forall_mem_cons.mpr ⟨trivial, List.forall_mem_cons.mpr ⟨trivial, List.forall_mem_cons.mpr ⟨trivial, List.forall_mem_cons.mpr ⟨trivial, List.forall_mem_cons.mpr ⟨trivial, List.forall_mem_cons.mpr ⟨trivial, List.forall_mem_cons.mpr ⟨trivial, List.forall_mem_cons.mpr ⟨trivial, List.forall_mem_cons.mpr ⟨trivial, List.forall_mem_cons.mpr ⟨trivial, List.forall_mem_cons.mpr ⟨trivial, List.forall_mem_cons.mpr ⟨⟨m_fact_80, (Or.inl mw_594), mw_595, mw_596⟩, List.forall_mem_cons.mpr ⟨trivial, List.forall_mem_cons.mpr ⟨trivial, List.forall_mem_cons.mpr ⟨trivial, List.forall_mem_cons.mpr ⟨trivial, List.forall_mem_cons.mpr ⟨trivial, List.forall_mem_cons.mpr ⟨trivial, List.forall_mem_cons.mpr ⟨trivial, List.forall_mem_cons.mpr ⟨trivial, List.forall_mem_cons.mpr ⟨trivial, List.forall_mem_cons.mpr ⟨trivial, List.forall_mem_cons.mpr ⟨trivial, List.forall_mem_cons.mpr ⟨trivial, List.forall_mem_cons.mpr ⟨trivial, List.forall_mem_cons.mpr ⟨trivial, List.forall_mem_cons.mpr ⟨trivial, List.forall_mem_cons.mpr ⟨trivial, List.forall_mem_cons.mpr ⟨trivial, List.forall_mem_cons.mpr ⟨trivial, List.forall_mem_cons.mpr ⟨trivial, List.forall_mem_cons.mpr ⟨⟨m_fact_39, (Or.inl mw_116), mw_117, mw_118⟩, List.forall_mem_cons.mpr ⟨trivial, List.forall_mem_cons.mpr ⟨trivial, List.forall_mem_cons.mpr ⟨trivial, List.forall_mem_cons.mpr ⟨trivial, List.forall_mem_cons.mpr ⟨trivial, List.forall_mem_cons.mpr ⟨trivial, List.forall_mem_cons.mpr ⟨trivial, List.forall_mem_cons.mpr ⟨trivial, List.forall_mem_cons.mpr ⟨trivial, List.forall_mem_cons.mpr ⟨trivial, List.forall_mem_cons.mpr ⟨trivial, List.forall_mem_cons.mpr ⟨trivial, List.forall_mem_cons.mpr ⟨trivial, List.forall_mem_cons.mpr ⟨trivial, List.forall_mem_cons.mpr ⟨trivial, List.forall_mem_cons.mpr ⟨trivial, List.forall_mem_cons.mpr ⟨⟨m_fact_81, (Or.inl mw_598), mw_599, mw_600⟩, List.forall_mem_cons.mpr ⟨trivial, List.forall_mem_cons.mpr ⟨trivial, List.forall_mem_cons.mpr ⟨trivial, List.forall_mem_cons.mpr ⟨trivial, List.forall_mem_cons.mpr ⟨trivial, List.forall_mem_cons.mpr ⟨trivial, List.forall_mem_cons.mpr ⟨trivial, List.forall_mem_cons.mpr ⟨trivial, List.forall_mem_cons.mpr ⟨trivial, List.forall_mem_cons.mpr ⟨trivial, List.forall_mem_cons.mpr ⟨trivial, fun _ h => nomatch h⟩⟩⟩⟩⟩⟩⟩⟩⟩⟩⟩⟩⟩⟩⟩⟩⟩⟩⟩⟩⟩⟩⟩⟩⟩⟩⟩⟩⟩⟩⟩⟩⟩⟩⟩⟩⟩⟩⟩⟩⟩⟩⟩⟩⟩⟩⟩⟩⟩⟩⟩⟩⟩⟩⟩⟩⟩⟩⟩⟩
theorem m_dec_92_8 : (mt_92_8.all fun r => decide (decode (m_b 92) r.1 = .ok (r.2.1, m_len r.2.1)) && m_jumpb r.1 r.2.1 r.2.2.1) = true := by decide +kernel
set_option maxRecDepth 20000 in
theorem m_wrd_92_8 : ∀ r ∈ mt_92_8, m_okw 92 r.1 r.2.1 r.2.2.1 r.2.2.2 := List.forall_mem_cons.mpr ⟨trivial, List.forall_mem_cons.mpr ⟨trivial, List.forall_mem_cons.mpr ⟨trivial, List.forall_mem_cons.mpr ⟨⟨m_fact_40, (Or.inl mw_141), mw_142, mw_143⟩, List.forall_mem_cons.mpr ⟨trivial, List.forall_mem_cons.mpr ⟨trivial, List.forall_mem_cons.mpr ⟨trivial, List.forall_mem_cons.mpr ⟨trivial, List.forall_mem_cons.mpr ⟨trivial, List.forall_mem_cons.mpr ⟨trivial, List.forall_mem_cons.mpr ⟨trivial, List.forall_mem_cons.mpr ⟨trivial, List.forall_mem_cons.mpr ⟨trivial, List.forall_mem_cons.mpr ⟨trivial, List.forall_mem_cons.mpr ⟨trivial, List.forall_mem_cons.mpr ⟨⟨m_fact_82, (Or.inl mw_605), mw_606, mw_607⟩, List.forall_mem_cons.mpr ⟨trivial, List.forall_mem_cons.mpr ⟨trivial, List.forall_mem_cons.mpr ⟨trivial, List.forall_mem_cons.mpr ⟨trivial, List.forall_mem_cons.mpr ⟨trivial, List.forall_mem_cons.mpr ⟨trivial, List.forall_mem_cons.mpr ⟨trivial, List.forall_mem_cons.mpr ⟨trivial, List.forall_mem_cons.mpr ⟨trivial, List.forall_mem_cons.mpr ⟨trivial, List.forall_mem_cons.mpr ⟨trivial, List.forall_mem_cons.mpr ⟨trivial, List.forall_mem_cons.mpr ⟨trivial, List.forall_mem_cons.mpr ⟨trivial, List.forall_mem_cons.mpr ⟨trivial, List.forall_mem_cons.mpr ⟨trivial, List.forall_mem_cons.mpr ⟨trivial, List.forall_mem_cons.mpr ⟨trivial, List.forall_mem_cons.mpr ⟨trivial, List.forall_mem_cons.mpr ⟨⟨m_fact_41, (Or.inl mw_150), mw_151, mw_152⟩, List.forall_mem_cons.mpr ⟨trivial, List.forall_mem_cons.mpr ⟨trivial, List.forall_mem_cons.mpr ⟨trivial, List.forall_mem_cons.mpr ⟨trivial, List.forall_mem_cons.mpr ⟨trivial, List.forall_mem_cons.mpr ⟨trivial, List.forall_mem_cons.mpr ⟨trivial, List.forall_mem_cons.mpr ⟨trivial, List.forall_mem_cons.mpr ⟨trivial, List.forall_mem_cons.mpr ⟨trivial, List.forall_mem_cons.mpr ⟨trivial, List.forall_mem_cons.mpr ⟨trivial, List.forall_mem_cons.mpr ⟨trivial, List.forall_mem_cons.mpr ⟨trivial, List.forall_mem_cons.mpr ⟨trivial, List.forall_mem_cons.mpr ⟨trivial, List.forall_mem_cons.mpr ⟨⟨m_fact_83, (Or.inl mw_609), mw_610, mw_611⟩, List.forall_mem_cons.mpr ⟨trivial, List.forall_mem_cons.mpr ⟨trivial, List.forall_mem_cons.mpr ⟨trivial, List.forall_mem_cons.mpr ⟨trivial, List.forall_mem_cons.mpr ⟨trivial, List.forall_mem_cons.mpr ⟨trivial, List.forall_mem_cons.mpr ⟨trivial, fun _ h => nomatch h⟩⟩⟩⟩⟩⟩⟩⟩⟩⟩⟩⟩⟩⟩⟩⟩⟩⟩⟩⟩⟩⟩⟩⟩⟩⟩⟩⟩⟩⟩⟩⟩⟩⟩⟩⟩⟩⟩⟩⟩⟩⟩⟩⟩⟩⟩⟩⟩⟩⟩⟩⟩⟩⟩⟩⟩⟩⟩⟩⟩
theorem m_dec_92_9 : (mt_92_9.all fun r => decide (decode (m_b 92) r.1 = .ok (r.2.1, m_len r.2.1)) && m_jumpb r.1 r.2.1 r.2.2.1) = true := by decide +kernel
set_option maxRecDepth 20000 in
theorem m_wrd_92_9 : ∀ r ∈ mt_92_9, m_okw 92 r.1 r.2.1 r.2.2.1 r.2.2.2 := List.forall_mem_cons.mpr ⟨trivial, List.forall_mem_cons.mpr ⟨trivial, List.forall_mem_cons.mpr ⟨trivial, List.forall_mem_cons.mpr ⟨trivial, List.forall_mem_cons.mpr ⟨trivial, List.forall_mem_cons.mpr ⟨trivial, List.forall_mem_cons.mpr ⟨trivial, List.forall_mem_cons.mpr ⟨⟨m_fact_42, (Or.inl mw_158), mw_159, mw_160⟩, List.forall_mem_cons.mpr ⟨trivial, List.forall_mem_cons.mpr ⟨trivial, List.forall_mem_cons.mpr ⟨trivial, List.forall_mem_cons.mpr ⟨trivial, List.forall_mem_cons.mpr ⟨trivial, List.forall_mem_cons.mpr ⟨trivial, List.forall_mem_cons.mpr ⟨trivial, List.forall_mem_cons.mpr ⟨trivial, List.forall_mem_cons.mpr ⟨trivial, List.forall_mem_cons.mpr ⟨trivial, List.forall_mem_cons.mpr ⟨trivial, List.forall_mem_cons.mpr ⟨⟨m_fact_84, (Or.inl mw_613), mw_614, mw_615⟩, List.forall_mem_cons.mpr ⟨trivial, List.forall_mem_cons.mpr ⟨trivial, List.forall_mem_cons.mpr ⟨trivial, List.forall_mem_cons.mpr ⟨trivial, List.forall_mem_cons.mpr ⟨trivial, List.forall_mem_cons.mpr ⟨trivial, List.forall_mem_cons.mpr ⟨trivial, fun _ h => nomatch h⟩⟩⟩⟩⟩⟩⟩⟩⟩⟩⟩⟩⟩⟩⟩⟩⟩⟩⟩⟩⟩⟩⟩⟩⟩⟩⟩
theorem m_dec_92 : (mt_92.all fun r => decide (decode (m_b 92) r.1 = .ok (r.2.1, m_len r.2.1)) && m_jumpb r.1 r.2.1 r.2.2.1) = true := m_all_app m_dec_92_0 (m_all_app m_dec_92_1 (m_all_app m_dec_92_2 (m_all_app m_dec_92_3 (m_all_app m_dec_92_4 (m_all_app m_dec_92_5 (m_all_app m_dec_92_6 (m_all_app m_dec_92_7 (m_all_app m_dec_92_8 (m_dec_92_9)))))))))
theorem m_wrd_92 : ∀ r ∈ mt_92, m_okw 92 r.1 r.2.1 r.2.2.1 r.2.2.2 := List.forall_mem_append.mpr ⟨m_wrd_92_0, List.forall_mem_append.mpr ⟨m_wrd_92_1, List.forall_mem_append.mpr ⟨m_wrd_92_2, List.forall_mem_append.mpr ⟨m_wrd_92_3, List.forall_mem_append.mpr ⟨m_wrd_92_4, List.forall_mem_append.mpr ⟨m_wrd_92_5, List.forall_mem_append.mpr ⟨m_wrd_92_6, List.forall_mem_append.mpr ⟨m_wrd_92_7, List.forall_mem_append.mpr ⟨m_wrd_92_8, m_wrd_92_9⟩⟩⟩⟩⟩⟩⟩⟩⟩
theorem m_jumpb_ok {pc : Nat} {i : Instr} {a : Nat} (h : m_jumpb pc i a = true) : m_jump pc i a := by
  unfold m_jumpb at h
  unfold m_jump
  split at h <;> first | exact of_decide_eq_true h | trivial
theorem m_dec_all : ∀ k : Nat, ((m_tab k).all fun r => decide (decode (m_b k) r.1 = .ok (r.2.1, m_len r.2.1)) && m_jumpb r.1 r.2.1 r.2.2.1) = true
  | 0 => m_dec_0
  | 1 => m_dec_1
  | 2 => m_dec_2
  | 3 => m_dec_3
  | 4 => m_dec_4
  | 5 => m_dec_5
  | 6 => m_dec_6
  | 7 => m_dec_7
  | 8 => m_dec_8
  | 9 => m_dec_9
  | 10 => m_dec_10
  | 11 => m_dec_11
  | 12 => m_dec_12
  | 13 => m_dec_13
  | 14 => m_dec_14
  | 15 => m_dec_15
  | 16 => m_dec_16
  | 17 => m_dec_17
  | 18 => m_dec_18
  | 19 => m_dec_19
  | 20 => m_dec_20
  | 21 => m_dec_21
  | 22 => m_dec_22
  | 23 => m_dec_23
  | 24 => m_dec_24
  | 25 => m_dec_25
  | 26 => m_dec_26
  | 27 => m_dec_27
  | 28 => m_dec_28
  | 29 => m_dec_29
  | 30 => m_dec_30
  | 31 => m_dec_31
  | 32 => m_dec_32
  | 33 => m_dec_33
  | 34 => m_dec_34
  | 35 => m_dec_35
  | 36 => m_dec_36
  | 37 => m_dec_37
  | 38 => m_dec_38
  | 39 => m_dec_39
  | 40 => m_dec_40
  | 41 => m_dec_41
  | 42 => m_dec_42
  | 43 => m_dec_43
  | 44 => m_dec_44
  | 45 => m_dec_45
  | 46 => m_dec_46
  | 47 => m_dec_47
  | 48 => m_dec_48
  | 49 => m_dec_49
  | 50 => m_dec_50
  | 51 => m_dec_51
  | 52 => m_dec_52
  | 53 => m_dec_53
  | 54 => m_dec_54
  | 55 => m_dec_55
  | 56 => m_dec_56
  | 57 => m_dec_57
  | 58 => m_dec_58
  | 59 => m_dec_59
  | 60 => m_dec_60
  | 61 => m_dec_61
  | 62 => m_dec_62
  | 63 => m_dec_63
  | 64 => m_dec_64
  | 65 => m_dec_65
  | 66 => m_dec_66
  | 67 => m_dec_67
  | 68 => m_dec_68
  | 69 => m_dec_69
  | 70 => m_dec_70
  | 71 => m_dec_71
  | 72 => m_dec_72
  | 73 => m_dec_73
  | 74 => m_dec_74
  | 75 => m_dec_75
  | 76 => m_dec_76
  | 77 => m_dec_77
  | 78 => m_dec_78
  | 79 => m_dec_79
  | 80 => m_dec_80
  | 81 => m_dec_81
  | 82 => m_dec_82
  | 83 => m_dec_83
  | 84 => m_dec_84
  | 85 => m_dec_85
  | 86 => m_dec_86
  | 87 => m_dec_87
  | 88 => m_dec_88
  | 89 => m_dec_89
  | 90 => m_dec_90
  | 91 => m_dec_91
  | 92 => m_dec_92
  | _ + 93 => rfl
theorem m_wrd_all : ∀ k : Nat, ∀ r ∈ m_tab k, m_okw k r.1 r.2.1 r.2.2.1 r.2.2.2
  | 0 => m_wrd_0
  | 1 => m_wrd_1
  | 2 => m_wrd_2
  | 3 => m_wrd_3
  | 4 => m_wrd_4
  | 5 => m_wrd_5
  | 6 => m_wrd_6
  | 7 => m_wrd_7
  | 8 => m_wrd_8
  | 9 => m_wrd_9
  | 10 => m_wrd_10
  | 11 => m_wrd_11
  | 12 => m_wrd_12
  | 13 => m_wrd_13
  | 14 => m_wrd_14
  | 15 => m_wrd_15
  | 16 => m_wrd_16
  | 17 => m_wrd_17
  | 18 => m_wrd_18
  | 19 => m_wrd_19
  | 20 => m_wrd_20
  | 21 => m_wrd_21
  | 22 => m_wrd_22
  | 23 => m_wrd_23
  | 24 => m_wrd_24
  | 25 => m_wrd_25
  | 26 => m_wrd_26
  | 27 => m_wrd_27
  | 28 => m_wrd_28
  | 29 => m_wrd_29
  | 30 => m_wrd_30
  | 31 => m_wrd_31
  | 32 => m_wrd_32
  | 33 => m_wrd_33
  | 34 => m_wrd_34
  | 35 => m_wrd_35
  | 36 => m_wrd_36
  | 37 => m_wrd_37
  | 38 => m_wrd_38
  | 39 => m_wrd_39
  | 40 => m_wrd_40
  | 41 => m_wrd_41
  | 42 => m_wrd_42
  | 43 => m_wrd_43
  | 44 => m_wrd_44
  | 45 => m_wrd_45
  | 46 => m_wrd_46
  | 47 => m_wrd_47
  | 48 => m_wrd_48
  | 49 => m_wrd_49
  | 50 => m_wrd_50
  | 51 => m_wrd_51
  | 52 => m_wrd_52
  | 53 => m_wrd_53
  | 54 => m_wrd_54
  | 55 => m_wrd_55
  | 56 => m_wrd_56
  | 57 => m_wrd_57
  | 58 => m_wrd_58
  | 59 => m_wrd_59
  | 60 => m_wrd_60
  | 61 => m_wrd_61
  | 62 => m_wrd_62
  | 63 => m_wrd_63
  | 64 => m_wrd_64
  | 65 => m_wrd_65
  | 66 => m_wrd_66
  | 67 => m_wrd_67
  | 68 => m_wrd_68
  | 69 => m_wrd_69
  | 70 => m_wrd_70
  | 71 => m_wrd_71
  | 72 => m_wrd_72
  | 73 => m_wrd_73
  | 74 => m_wrd_74
  | 75 => m_wrd_75
  | 76 => m_wrd_76
  | 77 => m_wrd_77
  | 78 => m_wrd_78
  | 79 => m_wrd_79
  | 80 => m_wrd_80
  | 81 => m_wrd_81
  | 82 => m_wrd_82
  | 83 => m_wrd_83
  | 84 => m_wrd_84
  | 85 => m_wrd_85
  | 86 => m_wrd_86
  | 87 => m_wrd_87
  | 88 => m_wrd_88
  | 89 => m_wrd_89
  | 90 => m_wrd_90
  | 91 => m_wrd_91
  | 92 => m_wrd_92
  | _ + 93 => fun _ h => nomatch h
theorem m_look_mem {t : List (Nat × Instr × Nat × Nat)} {q : Nat} {r : Instr × Nat × Nat} (h : m_look t q = some r) : (q, r) ∈ t := by
  induction t with
  | nil => cases h
  | cons x t ih =>
    unfold m_look at h
    cases e : Nat.beq x.1 q with
    | true =>
      rw [e] at h
      have h1 : x.2 = r := Option.some.inj h
      have h2 : x.1 = q := Nat.eq_of_beq_eq_true e
      rw [← h1, ← h2]
      exact List.mem_cons_self
    | false =>
      rw [e] at h
      exact List.mem_cons_of_mem _ (ih h)
theorem m_ok {k pc : Nat} {i : Instr} {a b : Nat} (h : m_i k pc = some (i, a, b)) : decode (m_b k) pc = .ok (i, m_len i) ∧ m_jump pc i a ∧ m_okw k pc i a b := by
  have hm := m_look_mem h
  have h1 := List.all_eq_true.mp (m_dec_all k) _ hm
  rw [Bool.and_eq_true] at h1
  exact ⟨of_decide_eq_true h1.1, m_jumpb_ok h1.2, m_wrd_all k _ hm⟩
theorem m_cls {ci : Nat} {C : String} {T : u_T} {N : Nat} (h : vwCl[ci]? = some (C, T, N)) : (∀ w ∈ u_ws C T N, w ∈ m_tall) ∧ (∀ j, j < N → parseFieldDescriptor (T j).2.2.1 = some (m_ty ci j)) ∧ ∀ a, a < N → ∀ b, b < N → a ≠ b → (T a).2.1 ≠ (T b).2.1 := by
  match ci, h with
  | 0, h => cases h; exact ⟨List.forall_mem_cons.mpr ⟨mw_36, List.forall_mem_cons.mpr ⟨mw_38, List.forall_mem_cons.mpr ⟨mw_40, List.forall_mem_cons.mpr ⟨mw_42, List.forall_mem_cons.mpr ⟨mw_44, List.forall_mem_cons.mpr ⟨mw_46, List.forall_mem_cons.mpr ⟨mw_48, fun _ h => nomatch h⟩⟩⟩⟩⟩⟩⟩, (by decide +kernel), (by decide +kernel)⟩
  | 1, h => cases h; exact ⟨List.forall_mem_cons.mpr ⟨mw_338, List.forall_mem_cons.mpr ⟨mw_340, List.forall_mem_cons.mpr ⟨mw_342, List.forall_mem_cons.mpr ⟨mw_344, List.forall_mem_cons.mpr ⟨mw_346, fun _ h => nomatch h⟩⟩⟩⟩⟩, (by decide +kernel), (by decide +kernel)⟩
  | 2, h => cases h; exact ⟨List.forall_mem_cons.mpr ⟨mw_61, List.forall_mem_cons.mpr ⟨mw_63, fun _ h => nomatch h⟩⟩, (by decide +kernel), (by decide +kernel)⟩
  | 3, h => cases h; exact ⟨List.forall_mem_cons.mpr ⟨mw_73, List.forall_mem_cons.mpr ⟨mw_75, List.forall_mem_cons.mpr ⟨mw_77, List.forall_mem_cons.mpr ⟨mw_79, List.forall_mem_cons.mpr ⟨mw_81, fun _ h => nomatch h⟩⟩⟩⟩⟩, (by decide +kernel), (by decide +kernel)⟩
  | 4, h => cases h; exact ⟨List.forall_mem_cons.mpr ⟨mw_458, List.forall_mem_cons.mpr ⟨mw_460, List.forall_mem_cons.mpr ⟨mw_462, List.forall_mem_cons.mpr ⟨mw_464, List.forall_mem_cons.mpr ⟨mw_466, List.forall_mem_cons.mpr ⟨mw_468, List.forall_mem_cons.mpr ⟨mw_470, List.forall_mem_cons.mpr ⟨mw_472, List.forall_mem_cons.mpr ⟨mw_474, List.forall_mem_cons.mpr ⟨mw_476, List.forall_mem_cons.mpr ⟨mw_478, List.forall_mem_cons.mpr ⟨mw_480, List.forall_mem_cons.mpr ⟨mw_482, List.forall_mem_cons.mpr ⟨mw_484, List.forall_mem_cons.mpr ⟨mw_486, fun _ h => nomatch h⟩⟩⟩⟩⟩⟩⟩⟩⟩⟩⟩⟩⟩⟩⟩, (by decide +kernel), (by decide +kernel)⟩
  | _ + 5, h => cases h
theorem m_cname_ok {ci : Nat} {r : vw_C} (h : vwCl[ci]? = some r) : m_cname ci = r.1 := by
  match ci, h with
  | 0, h => cases h; rfl
  | 1, h => cases h; rfl
  | 2, h => cases h; rfl
  | 3, h => cases h; rfl
  | 4, h => cases h; rfl
  | _ + 5, h => cases h
theorem m_hall_hok : True := trivial
end
section
/-! Memory as a function: cells by their numbers from the law's first new cell on; what is known of a running method; the judgement Sp. -/
/-- cells by number; how many have been made; how many slots -/
abbrev mM : Type := (Nat → Option va_E) × Nat × Nat
/-- a frame: pc, locals that are known, operand stack -/
abbrev mF : Type := Nat × List (Nat × Value) × List Value
/-- launch; first new cell's address; the script's address, length, ints; the heap at the start; classes and slots; array classes -/
abbrev mX : Type := Launch × Nat × Nat × Nat × (Nat → Int32) × Heap × va_G × (Nat → ClassId)
abbrev mX.l (X : mX) : Launch := X.1
abbrev mX.B (X : mX) : Nat := X.2.1
abbrev mX.b (X : mX) : Nat := X.2.2.1
abbrev mX.L (X : mX) : Nat := X.2.2.2.1
abbrev mX.xs (X : mX) : Nat → Int32 := X.2.2.2.2.1
abbrev mX.H0 (X : mX) : Heap := X.2.2.2.2.2.1
abbrev mX.D (X : mX) : va_G := X.2.2.2.2.2.2.1
abbrev mX.dA (X : mX) : Nat → ClassId := X.2.2.2.2.2.2.2
/-- a value of the memory as the machine has it -/
def m_v (X : mX) : Value → Value
  | .ref a => .ref (X.B + a)
  | .retAddr _ => .ref X.b
  | .int x => .int x
  | .long x => .long x
  | .float x => .float x
  | .double x => .double x
  | .null => .null
theorem m_v_cat (X : mX) (v : Value) : (m_v X v).category = v.category := by cases v <;> rfl
def m_lv (X : mX) (ls : List (Nat × Value)) : List (Nat × Value) := ls.map fun q => (q.1, m_v X q.2)
def m_a (X : mX) : ((Nat → Int32) ⊕ (Nat → Int64) ⊕ (Nat → UInt32) ⊕ (Nat → UInt64) ⊕ (Nat → Option Nat)) → ((Nat → Int32) ⊕ (Nat → Int64) ⊕ (Nat → UInt32) ⊕ (Nat → UInt64) ⊕ (Nat → Option Nat))
  | .inl f => .inl f
  | .inr (.inl f) => .inr (.inl f)
  | .inr (.inr (.inl f)) => .inr (.inr (.inl f))
  | .inr (.inr (.inr (.inl f))) => .inr (.inr (.inr (.inl f)))
  | .inr (.inr (.inr (.inr f))) => .inr (.inr (.inr (.inr fun j => (f j).map (X.B + ·))))
def m_e (X : mX) : va_E → va_E
  | .inl (t, n, a) => .inl (X.dA t, n, m_a X a)
  | .inr (c, fs) => .inr (c, fs.map (m_v X))
/-- the heap holds the memory; below the first new cell it is as it was -/
def m_R (X : mX) (M : mM) (H : Heap) : Prop :=
  H.size = X.B + M.2.1 ∧ (∀ i x, M.1 i = some x → i < M.2.1 ∧ va_at X.D vwCl (X.B + i, m_e X x) H) ∧ ∀ q, q < X.B → H[q]? = X.H0[q]?
def m_put (M : mM) (a : Nat) (x : va_E) : mM := (va_up M.1 a (some x), M.2)
def m_new (M : mM) (x : Option va_E) (n : Nat) : mM := (va_up M.1 M.2.1 x, M.2.1 + 1, M.2.2 + n)
theorem m_R.put {X : mX} {M : mM} {H H' : Heap} (h : m_R X M H) {i : Nat} {x x' : va_E} (hi : M.1 i = some x) (hs : H'.size = H.size) (ho : ∀ q, q ≠ X.B + i → H'[q]? = H[q]?) (hx : va_at X.D vwCl (X.B + i, m_e X x') H') : m_R X (m_put M i x') H' := by
  refine ⟨by rw [hs]; exact h.1, fun j y hj => ?_, fun q hq => by rw [ho q (by omega)]; exact h.2.2 q hq⟩
  by_cases e : j = i
  · subst e
    have hj' : some x' = some y := by simpa [m_put, va_up] using hj
    cases hj'
    exact ⟨(h.2.1 j x hi).1, hx⟩
  · have hj' : M.1 j = some y := by simpa [m_put, va_up, e] using hj
    exact ⟨(h.2.1 j y hj').1, (h.2.1 j y hj').2.kept (ho _ (by show X.B + j ≠ X.B + i; omega))⟩
theorem m_R.new {X : mX} {M : mM} {H H' : Heap} (h : m_R X M H) {x : Option va_E} {n : Nat} (hs : H'.size = H.size + 1) (ho : ∀ q, q < H.size → H'[q]? = H[q]?) (hx : ∀ y, x = some y → va_at X.D vwCl (X.B + M.2.1, m_e X y) H') : m_R X (m_new M x n) H' := by
  have h1 := h.1
  refine ⟨by rw [hs, h1]; show X.B + M.2.1 + 1 = X.B + (M.2.1 + 1); omega, fun j y hj => ?_, fun q hq => by rw [ho q (by omega)]; exact h.2.2 q hq⟩
  by_cases e : j = M.2.1
  · subst e
    have hj' : x = some y := by simpa [m_new, va_up] using hj
    exact ⟨Nat.lt_succ_self _, hx y hj'⟩
  · have hj' : M.1 j = some y := by simpa [m_new, va_up, e] using hj
    have h3 := h.2.1 j y hj'
    exact ⟨Nat.lt_succ_of_lt h3.1, h3.2.kept (ho _ (by show X.B + j < H.size; have := h3.1; omega))⟩
/-- a word that holds here and in every state whose tables are warmer -/
def m_pw (s : State) (w : Cond) : Prop := ∀ (a : Array Value) (U : State), s.WarmedH U.vm → w.before a U = true
theorem m_pw.moved {s U : State} {w : Cond} (hW : s.WarmedH U.vm) (h : m_pw s w) : m_pw U w := fun a V hV => h a V (State.WarmedH.trans hW hV)
theorem m_pw.here {s : State} {w : Cond} (h : m_pw s w) (a : Array Value) : w.before a s = true := h a s (State.WarmedH.refl s)
def m_tys (X : mX) : List (ClassId × FieldType) := [(X.dA 0, .int), (X.dA 1, .long), (X.dA 2, .boolean), (X.dA 3, .object m_parcel)]
/-- a static field, its class's cell in the start's heap, the reference in it -/
def m_L (X : mX) (C n d : String) (U : State) : Prop := ∃ (c : ClassId) (k : Class) (i : Nat) (f : Field) (a : Nat) (cell : Cell) (v : Value), U.vm.findClass C = some c ∧ U.fieldFound? C n d = some (c, k, i, f) ∧ f.isStatic = true ∧ k.statics = some a ∧ X.H0[a]? = some cell ∧ cell.vm.isStatics = true ∧ cell.cls = c ∧ f.slot < cell.slots.size ∧ k.staticTypes[f.slot]? = some f.type ∧ cell.slots[f.slot]? = some v ∧ v.isRef = true
theorem m_L.moved {X : mX} {C n d : String} {u U : State} (hvm : u.vm.Alike U.vm) (h : m_L X C n d u) : m_L X C n d U := by
  obtain ⟨c, k, i, f, a, cell, v, h1, h2, h3, h4, h5, h6, h7, h8, h9, h10, h11⟩ := h
  obtain ⟨k', hi', he⟩ := State.fieldFound?_setVm hvm h2
  exact ⟨c, k', i, f, a, cell, v, by rw [hvm.findClass]; exact h1, hi', h3, by rw [he]; exact h4, h5, h6, h7, h8, by rw [he]; exact h9, h10, h11⟩
/-- the three exceptions: each is of its own class alone -/
def m_apart (s : State) : Prop := ∀ q r : Nat, q < 3 → r < 3 → ∀ cq cr : ClassId, s.vm.findClass (m_exc q) = some cq → s.vm.findClass (m_exc r) = some cr → s.vm.assignable cq cr = decide (q = r)
theorem m_apart.moved {u U : State} (hvm : u.vm.Alike U.vm) (h : m_apart u) : m_apart U := by
  intro q r hq hr cq cr h1 h2
  rw [hvm.findClass] at h1 h2
  rw [hvm.assignable]
  exact h q r hq hr cq cr h1 h2
/-- what the tables and the start's heap say, in every state of the run -/
def m_T (X : mX) (s : State) : Prop :=
  (∀ w ∈ m_tall, m_pw s w) ∧ va_K X.D vwCl (m_tys X) s ∧ va_X X.b X.L X.xs s X.H0 ∧ X.b < X.B ∧ X.H0.size = X.B ∧ X.l.stackTraces = false ∧
    m_L X Bundle.tN "UNASSIGNED_STACK" Bundle.steD s ∧ m_L X Bundle.tN "SUPPRESSED_SENTINEL" Bundle.listD s ∧ m_apart s
end
section
/-! Instructions that read and write no cell. -/
def m_get (ls : List (Nat × Value)) (i : Nat) : Option Value := (ls.find? fun q => q.1 == i).map (·.2)
def m_st1 (i : Nat) (v : Value) (ls : List (Nat × Value)) : List (Nat × Value) := (i, v) :: ls.filter (fun q => !(q.1 == i) && !(q.1 + 1 == i && q.2.category == 2))
def m_st2 (i : Nat) (v : Value) (ls : List (Nat × Value)) : List (Nat × Value) := (i, v) :: ls.filter (fun q => !(q.1 == i) && (!(q.1 == i + 1) && !(q.1 + 1 == i && q.2.category == 2)))
theorem m_lv_st1 (X : mX) (i : Nat) (v : Value) (ls : List (Nat × Value)) : (i, m_v X v) :: (m_lv X ls).filter (fun q => !(q.1 == i) && !(q.1 + 1 == i && q.2.category == 2)) = m_lv X (m_st1 i v ls) := by
  unfold m_lv m_st1
  rw [List.map_cons, List.filter_map]
  congr 2
  apply List.filter_congr
  intro q _
  simp only [Function.comp_def, m_v_cat]
theorem m_lv_st2 (X : mX) (i : Nat) (v : Value) (ls : List (Nat × Value)) : (i, m_v X v) :: (m_lv X ls).filter (fun q => !(q.1 == i) && (!(q.1 == i + 1) && !(q.1 + 1 == i && q.2.category == 2))) = m_lv X (m_st2 i v ls) := by
  unfold m_lv m_st2
  rw [List.map_cons, List.filter_map]
  congr 2
  apply List.filter_congr
  intro q _
  simp only [Function.comp_def, m_v_cat]
theorem m_get_has {X : mX} {la : Array Slot} {n i : Nat} {ls : List (Nat × Value)} {v : Value} (h : lv_has la n (m_lv X ls)) (hg : m_get ls i = some v) : la[i]? = some (.val (m_v X v)) := by
  unfold m_get at hg
  cases hf : ls.find? (fun q => q.1 == i) with
  | none => rw [hf] at hg; cases hg
  | some q =>
    rw [hf] at hg
    have e1 : q.2 = v := by simpa using hg
    have e2 : q.1 = i := by simpa using List.find?_some hf
    have hm : (q.1, m_v X q.2) ∈ m_lv X ls := List.mem_map.mpr ⟨q, List.mem_of_find?_eq_some hf, rfl⟩
    have := h.2.2 _ hm
    rw [← e1, ← e2]
    exact this
theorem m_get_at {X : mX} {ls : List (Nat × Value)} {i : Nat} {v : Value} (hg : m_get ls i = some v) : ∃ k : Nat, (m_lv X ls)[k]? = some (i, m_v X v) := by
  unfold m_get at hg
  cases hf : ls.find? (fun q => q.1 == i) with
  | none => rw [hf] at hg; cases hg
  | some q =>
    rw [hf] at hg
    have e1 : q.2 = v := by simpa using hg
    have e2 : q.1 = i := by simpa using List.find?_some hf
    have hm : (q.1, m_v X q.2) ∈ m_lv X ls := List.mem_map.mpr ⟨q, List.mem_of_find?_eq_some hf, rfl⟩
    rw [e1, e2] at hm
    exact List.mem_iff_getElem?.mp hm
/-- one instruction; nL: how many locals; a: where a jump goes -/
def m_pure (nL a pc : Nat) (ls : List (Nat × Value)) : Instr → List Value → Option mF
  | .iconst n, st => some (pc + 1, ls, .int (Int32.ofInt n) :: st)
  | .bipush n, st => some (pc + 2, ls, .int (Int8.ofInt n).toInt32 :: st)
  | .sipush n, st => some (pc + 3, ls, .int (Int16.ofInt n).toInt32 :: st)
  | .lconst n, st => some (pc + 1, ls, .long (Int64.ofNat (n : Nat)) :: st)
  | .aconst_null, st => some (pc + 1, ls, .null :: st)
  | .iload i, st => match m_get ls i with
    | some (.int x) => some (pc + 2, ls, .int x :: st)
    | _ => none
  | .iload_n i, st => match m_get ls (i : Nat) with
    | some (.int x) => some (pc + 1, ls, .int x :: st)
    | _ => none
  | .lload i, st => match m_get ls i with
    | some (.long x) => some (pc + 2, ls, .long x :: st)
    | _ => none
  | .lload_n i, st => match m_get ls (i : Nat) with
    | some (.long x) => some (pc + 1, ls, .long x :: st)
    | _ => none
  | .aload i, st => match m_get ls i with
    | some (.ref x) => some (pc + 2, ls, .ref x :: st)
    | some (.retAddr x) => some (pc + 2, ls, .retAddr x :: st)
    | some .null => some (pc + 2, ls, .null :: st)
    | _ => none
  | .aload_n i, st => match m_get ls (i : Nat) with
    | some (.ref x) => some (pc + 1, ls, .ref x :: st)
    | some (.retAddr x) => some (pc + 1, ls, .retAddr x :: st)
    | some .null => some (pc + 1, ls, .null :: st)
    | _ => none
  | .istore i, .int x :: st => if i < nL then some (pc + 2, m_st1 i (.int x) ls, st) else none
  | .istore_n i, .int x :: st => if (i : Nat) < nL then some (pc + 1, m_st1 (i : Nat) (.int x) ls, st) else none
  | .lstore i, .long x :: st => if i + 1 < nL then some (pc + 2, m_st2 i (.long x) ls, st) else none
  | .lstore_n i, .long x :: st => if (i : Nat) + 1 < nL then some (pc + 1, m_st2 (i : Nat) (.long x) ls, st) else none
  | .astore i, .ref x :: st => if i < nL then some (pc + 2, m_st1 i (.ref x) ls, st) else none
  | .astore i, .null :: st => if i < nL then some (pc + 2, m_st1 i .null ls, st) else none
  | .astore_n i, .ref x :: st => if (i : Nat) < nL then some (pc + 1, m_st1 (i : Nat) (.ref x) ls, st) else none
  | .astore_n i, .null :: st => if (i : Nat) < nL then some (pc + 1, m_st1 (i : Nat) .null ls, st) else none
  | .iinc i n, st => match m_get ls i with
    | some (.int x) => if i < nL then some (pc + 3, m_st1 i (.int (x + Int32.ofInt n)) ls, st) else none
    | _ => none
  | .iadd, .int y :: .int x :: st => some (pc + 1, ls, .int (x + y) :: st)
  | .isub, .int y :: .int x :: st => some (pc + 1, ls, .int (x - y) :: st)
  | .imul, .int y :: .int x :: st => some (pc + 1, ls, .int (x * y) :: st)
  | .iand, .int y :: .int x :: st => some (pc + 1, ls, .int (x &&& y) :: st)
  | .ior, .int y :: .int x :: st => some (pc + 1, ls, .int (x ||| y) :: st)
  | .ixor, .int y :: .int x :: st => some (pc + 1, ls, .int (x ^^^ y) :: st)
  | .ishl, .int y :: .int x :: st => some (pc + 1, ls, .int (x <<< (y &&& 31)) :: st)
  | .ishr, .int y :: .int x :: st => some (pc + 1, ls, .int (x >>> (y &&& 31)) :: st)
  | .land, .long y :: .long x :: st => some (pc + 1, ls, .long (x &&& y) :: st)
  | .lor, .long y :: .long x :: st => some (pc + 1, ls, .long (x ||| y) :: st)
  | .lshl, .int y :: .long x :: st => some (pc + 1, ls, .long (x <<< (y.toInt64 &&& 63)) :: st)
  | .lshr, .int y :: .long x :: st => some (pc + 1, ls, .long (x >>> (y.toInt64 &&& 63)) :: st)
  | .lcmp, .long y :: .long x :: st => some (pc + 1, ls, .int (lg_cmp x y) :: st)
  | .i2l, .int x :: st => some (pc + 1, ls, .long x.toInt64 :: st)
  | .dup, .int x :: st => some (pc + 1, ls, .int x :: .int x :: st)
  | .dup, .ref x :: st => some (pc + 1, ls, .ref x :: .ref x :: st)
  | .dup2, .int y :: .ref x :: st => some (pc + 1, ls, .int y :: .ref x :: .int y :: .ref x :: st)
  | .pop, .int _ :: st => some (pc + 1, ls, st)
  | .pop, .ref _ :: st => some (pc + 1, ls, st)
  | .goto _, st => some (a, ls, st)
  | .ifnull _, .ref _ :: st => some (pc + 3, ls, st)
  | .ifnull _, .null :: st => some (a, ls, st)
  | .ifnonnull _, .ref _ :: st => some (a, ls, st)
  | .ifnonnull _, .null :: st => some (pc + 3, ls, st)
  | _, _ => none
def m_cond : ClassFile.Cond → Int32 → Int32 → Prop
  | .eq, x, y => x = y
  | .ne, x, y => ¬ x = y
  | .lt, x, y => x < y
  | .ge, x, y => y ≤ x
  | .gt, x, y => y < x
  | .le, x, y => x ≤ y
section MP
variable {p : Program} {e : Env} {R : Room} {s : State} {m : MethodId} {args : Array Value} {below : List Frame} {meth : Method} {c : Code} {H : Heap} {locs : List Loc} {cells slots : Nat} {Q : State → Prop}
set_option maxHeartbeats 4000000 in
theorem m_pure_W {X : mX} {l : Launch} {cc : ByteArray} {nL a pc : Nat} {ls : List (Nat × Value)} {i : Instr} {st : List Value} {f : mF} (hx : p.tables.exec = Jvm.exec) (hb : c.code = cc) (hd : decode cc pc = .ok (i, m_len i)) (ha : m_jump pc i a) {la : Array Slot} (hl : lv_has la nL (m_lv X ls)) (hp : m_pure nL a pc ls i st = some f)
    (kk : ∀ la' : Array Slot, lv_has la' nL (m_lv X f.2.1) → W p l e R s m args below meth c H locs cells slots Q (F0 m f.1 la' (f.2.2.map (m_v X)))) : W p l e R s m args below meth c H locs cells slots Q (F0 m pc la (st.map (m_v X))) := by
  unfold m_pure at hp
  split at hp
  · cases hp; exact lv_iconst hx hb hd rfl (kk la hl)
  · cases hp; exact lv_bipush hx hb hd rfl (kk la hl)
  · cases hp; exact lv_sipush hx hb hd rfl (kk la hl)
  · cases hp; exact lv_lconst hx hb hd rfl (kk la hl)
  · cases hp; exact lv_null hx hb hd (kk la hl)
  · split at hp
    · rename_i hg; cases hp; exact lv_iload hx hb hd (m_get_has hl hg) (kk la hl)
    · cases hp
  · split at hp
    · rename_i hg; cases hp; exact lv_iload_n hx hb hd rfl (m_get_has hl hg) (kk la hl)
    · cases hp
  · split at hp
    · rename_i hg; cases hp; exact lv_lload hx hb hd (m_get_has hl hg) (kk la hl)
    · cases hp
  · split at hp
    · rename_i hg; cases hp; exact lv_lload_n hx hb hd rfl (m_get_has hl hg) (kk la hl)
    · cases hp
  · split at hp
    · rename_i hg; cases hp; exact lv_aload hx hb hd (m_get_has hl hg) (kk la hl)
    · rename_i hg; cases hp; exact lv_aload hx hb hd (m_get_has hl hg) (kk la hl)
    · rename_i hg; cases hp; exact lv_aloadN hx hb hd (m_get_has hl hg) (kk la hl)
    · cases hp
  · split at hp
    · rename_i hg; cases hp; exact lv_aload_n hx hb hd rfl (m_get_has hl hg) (kk la hl)
    · rename_i hg; cases hp; exact lv_aload_n hx hb hd rfl (m_get_has hl hg) (kk la hl)
    · rename_i hg; cases hp; exact lv_aload_nN hx hb hd rfl (m_get_has hl hg) (kk la hl)
    · cases hp
  · split at hp
    · rename_i hi; cases hp; exact lv_istore hx hb hd hl hi (m_lv_st1 X _ (.int _) ls) kk
    · cases hp
  · split at hp
    · rename_i hi; cases hp; exact lv_istore_n hx hb hd rfl hl hi (m_lv_st1 X _ (.int _) ls) kk
    · cases hp
  · split at hp
    · rename_i hi; cases hp; exact lv_lstore hx hb hd hl hi (m_lv_st2 X _ (.long _) ls) kk
    · cases hp
  · split at hp
    · rename_i hi; cases hp; exact lv_lstore_n hx hb hd rfl hl hi (m_lv_st2 X _ (.long _) ls) kk
    · cases hp
  · split at hp
    · rename_i hi; cases hp; exact lv_astore hx hb hd hl hi (m_lv_st1 X _ (.ref _) ls) kk
    · cases hp
  · split at hp
    · rename_i hi; cases hp; exact lv_astoreN hx hb hd hl hi (m_lv_st1 X _ .null ls) kk
    · cases hp
  · split at hp
    · rename_i hi; cases hp; exact lv_astore_n hx hb hd rfl hl hi (m_lv_st1 X _ (.ref _) ls) kk
    · cases hp
  · split at hp
    · rename_i hi; cases hp; exact lv_astore_nN hx hb hd rfl hl hi (m_lv_st1 X _ .null ls) kk
    · cases hp
  · split at hp
    · rename_i hg
      split at hp
      · rename_i hi
        cases hp
        obtain ⟨k, hk⟩ := m_get_at (X := X) hg
        exact lv_iinc hx hb hd hl hk rfl hi (m_lv_st1 X _ (.int _) ls) kk
      · cases hp
    · cases hp
  · cases hp; exact lv_iadd hx hb hd (kk la hl)
  · cases hp; exact lv_isub hx hb hd (kk la hl)
  · cases hp; exact lv_imul hx hb hd (kk la hl)
  · cases hp; exact lv_iand hx hb hd (kk la hl)
  · cases hp; exact lv_ior hx hb hd (kk la hl)
  · cases hp; exact lv_ixor hx hb hd (kk la hl)
  · cases hp; exact lv_ishl hx hb hd (kk la hl)
  · cases hp; exact lv_ishr hx hb hd (kk la hl)
  · cases hp; exact lv_land hx hb hd (kk la hl)
  · cases hp; exact lv_lor hx hb hd (kk la hl)
  · cases hp; exact lv_lshl hx hb hd rfl (kk la hl)
  · cases hp; exact lv_lshr hx hb hd rfl (kk la hl)
  · cases hp; exact W.lcmp hx hb hd (kk la hl)
  · cases hp; exact lv_i2l hx hb hd rfl (kk la hl)
  · cases hp; exact lv_dup hx hb hd rfl (kk la hl)
  · cases hp; exact lv_dup hx hb hd rfl (kk la hl)
  · cases hp; exact lv_dup2_11 hx hb hd rfl rfl (kk la hl)
  · cases hp; exact lv_pop hx hb hd rfl (kk la hl)
  · cases hp; exact lv_pop hx hb hd rfl (kk la hl)
  · cases hp; exact lv_goto hx hb hd ha (kk la hl)
  · cases hp; exact lv_ifnull hx hb hd (kk la hl)
  · cases hp; exact lv_ifnullN hx hb hd ha (kk la hl)
  · cases hp; exact lv_ifnonnull hx hb hd ha (kk la hl)
  · cases hp; exact lv_ifnonnullN hx hb hd (kk la hl)
  · cases hp
theorem m_if_W {X : mX} {l : Launch} {cc : ByteArray} {a pc : Nat} {q : ClassFile.Cond} {off : Int} {x : Int32} {st : List Value} (hx : p.tables.exec = Jvm.exec) (hb : c.code = cc) (hd : decode cc pc = .ok (.ifCond q off, 3)) (ha : (pc : Int) + off = (a : Int)) {la : Array Slot}
    (k1 : m_cond q x 0 → W p l e R s m args below meth c H locs cells slots Q (F0 m a la (st.map (m_v X)))) (k2 : ¬ m_cond q x 0 → W p l e R s m args below meth c H locs cells slots Q (F0 m (pc + 3) la (st.map (m_v X)))) : W p l e R s m args below meth c H locs cells slots Q (F0 m pc la ((Value.int x :: st).map (m_v X))) := by
  cases q
  · exact lv_if_eq hx hb hd ha k1 k2
  · exact lv_if_ne hx hb hd ha k1 (fun h => k2 (fun h' => h' h))
  · exact lv_if_lt hx hb hd ha k1 k2
  · exact lv_if_ge hx hb hd ha k1 k2
  · exact lv_if_gt hx hb hd ha k1 k2
  · exact lv_if_le hx hb hd ha k1 k2
theorem m_icmp_W {X : mX} {l : Launch} {cc : ByteArray} {a pc : Nat} {q : ClassFile.Cond} {off : Int} {x y : Int32} {st : List Value} (hx : p.tables.exec = Jvm.exec) (hb : c.code = cc) (hd : decode cc pc = .ok (.if_icmp q off, 3)) (ha : (pc : Int) + off = (a : Int)) {la : Array Slot}
    (k1 : m_cond q x y → W p l e R s m args below meth c H locs cells slots Q (F0 m a la (st.map (m_v X)))) (k2 : ¬ m_cond q x y → W p l e R s m args below meth c H locs cells slots Q (F0 m (pc + 3) la (st.map (m_v X)))) : W p l e R s m args below meth c H locs cells slots Q (F0 m pc la ((Value.int y :: Value.int x :: st).map (m_v X))) := by
  cases q
  · exact lv_icmp_eq hx hb hd ha k1 k2
  · exact lv_icmp_ne hx hb hd ha k1 (fun h => k2 (fun h' => h' h))
  · exact lv_icmp_lt hx hb hd ha k1 k2
  · exact lv_icmp_ge hx hb hd ha k1 k2
  · exact lv_icmp_gt hx hb hd ha k1 k2
  · exact lv_icmp_le hx hb hd ha k1 k2
end MP
end
section
/-! The judgement: method k, at a frame, with a memory, comes to its end with Q. -/
def m_O (X : mX) (s : State) (po : Outcome) (M : mM) (o : Outcome) (t : State) : Prop := match po with
  | .returned v => o = .returned (v.map (m_v X))
  | .threw q => ∃ ce : Cell, o = .threw (X.B + (M.2.1 - 1)) ∧ t.heap[X.B + (M.2.1 - 1)]? = some ce ∧ ce.vm = .none ∧ s.vm.findClass (m_exc q) = some ce.cls
def m_Q (X : mX) (below : List Frame) (s : State) (mc ms : Nat) (Q : Outcome → mM → Prop) : State → Prop := fun t =>
  ∃ (o po : Outcome) (M : mM) (L : List Loc), t.status = .running ∧ Ended t below o ∧ s.WarmedH t.vm ∧ s.sameButNew ({ t with vm := s.vm } : State) L mc ms ∧ (∀ q ∈ L, X.B ≤ q.base) ∧ Q po M ∧ m_R X M t.heap ∧ m_O X s po M o t
def m_C (X : mX) (k : Nat) (p : Program) (s : State) (m : MethodId) (meth : Method) (c : Code) : Prop :=
  p.tables.exec = Jvm.exec ∧ c.code = m_b k ∧ meth.sig.returnType = m_r k ∧ c.maxLocals = m_n k ∧ s.vm.findClass (m_y k).cls = some m.cls ∧ meth.locks = false ∧ meth.name = (m_y k).name ∧
    c.exceptionTable.toList.map (fun h => (h.startPc, h.endPc, h.handlerPc, h.catchType)) = m_h k ∧ m_T X s
def Sp (X : mX) (k F N C S : Nat) (f : mF) (M : mM) (Q : Outcome → mM → Prop) : Prop :=
  ∀ (p : Program) (e : Env) (R : Room) (s : State) (m : MethodId) (args : Array Value) (below : List Frame) (meth : Method) (c : Code) (H : Heap) (locs : List Loc) (cells slots mc ms : Nat) (la : Array Slot),
    m_C X k p s m meth c → F ≤ R.frames → N ≤ R.locals → cells + C ≤ mc → slots + S ≤ ms → mc ≤ R.cells → ms ≤ R.slots → m_R X M H → (∀ q ∈ locs, X.B ≤ q.base) → lv_has la (m_n k) (m_lv X f.2.1) →
    W p X.l e R s m args below meth c H locs cells slots (m_Q X below s mc ms Q) (F0 m f.1 la (f.2.2.map (m_v X)))
/-- a word of the tables, here -/
theorem m_T.w {X : mX} {s : State} (h : m_T X s) {w : Cond} (hw : w ∈ m_tall) (a : Array Value) : w.before a s = true := (h.1 w hw).here a
theorem m_T.moved {X : mX} {s U : State} (hW : s.WarmedH U.vm) (h : m_T X s) : m_T X U := by
  obtain ⟨h1, h2, ⟨scr, e1, e2, e3, e4, e5⟩, h4, h5, h6, h7, h8, h9⟩ := h
  exact ⟨fun w hw => (h1 w hw).moved hW, va_K.moved hW.alike h2, ⟨scr, e1, State.isArrayOf_alike hW.alike e2, e3, e4, e5⟩, h4, h5, h6, h7.moved hW.alike, h8.moved hW.alike, h9.moved hW.alike⟩
section SP
variable {X : mX} {k F N C S : Nat} {pc : Nat} {ls : List (Nat × Value)} {st : List Value} {M : mM} {Q : Outcome → mM → Prop}
theorem Sp.mono {f : mF} {Q' : Outcome → mM → Prop} (h : Sp X k F N C S f M Q) (hq : ∀ o M', Q o M' → Q' o M') : Sp X k F N C S f M Q' := by
  intro p e R s m args below meth c H locs cells slots mc ms la hC hF hN hc hs hmc hms hR hl hv T hT Y
  obtain ⟨t, h1, o, po, M', L, g1, g2, g3, g4, g5, g6, g7, g8⟩ := h p e R s m args below meth c H locs cells slots mc ms la hC hF hN hc hs hmc hms hR hl hv T hT Y
  exact ⟨t, h1, o, po, M', L, g1, g2, g3, g4, g5, hq _ _ g6, g7, g8⟩
theorem Sp.room {f : mF} {F' N' C' S' : Nat} (h : Sp X k F N C S f M Q) (h1 : F ≤ F') (h2 : N ≤ N') (h3 : C ≤ C') (h4 : S ≤ S') : Sp X k F' N' C' S' f M Q := by
  intro p e R s m args below meth c H locs cells slots mc ms la hC hF hN hc hs hmc hms hR hl hv
  exact h p e R s m args below meth c H locs cells slots mc ms la hC (by omega) (by omega) (by omega) (by omega) hmc hms hR hl hv
/-- n instructions that touch no cell -/
def m_go (k : Nat) : Nat → mF → Option mF
  | 0, f => some f
  | n + 1, f => match m_i k f.1 with
    | some (i, a, _) => match m_pure (m_n k) a f.1 f.2.1 i f.2.2 with
      | some g => m_go k n g
      | none => none
    | none => none
theorem Sp.go (n : Nat) {f g : mF} (hg : m_go k n f = some g) (kk : Sp X k F N C S g M Q) : Sp X k F N C S f M Q := by
  induction n generalizing f with
  | zero => cases hg; exact kk
  | succ n ih =>
    unfold m_go at hg
    cases hi : m_i k f.1 with
    | none => rw [hi] at hg; cases hg
    | some r =>
      obtain ⟨i, a, b⟩ := r
      rw [hi] at hg
      cases hp : m_pure (m_n k) a f.1 f.2.1 i f.2.2 with
      | none => simp only [hp] at hg; cases hg
      | some g' =>
        simp only [hp] at hg
        have k2 := ih hg
        intro p e R s m args below meth c H locs cells slots mc ms la hC hF hN hc hs hmc hms hR hl hv
        exact m_pure_W (X := X) hC.1 hC.2.1 (m_ok hi).1 (m_ok hi).2.1 hv hp fun la' hv' => k2 p e R s m args below meth c H locs cells slots mc ms la' hC hF hN hc hs hmc hms hR hl hv'
theorem Sp.if {q : ClassFile.Cond} {off : Int} {x : Int32} {a b : Nat} (hi : m_i k pc = some (.ifCond q off, a, b)) (k1 : m_cond q x 0 → Sp X k F N C S (a, ls, st) M Q) (k2 : ¬ m_cond q x 0 → Sp X k F N C S (pc + 3, ls, st) M Q) : Sp X k F N C S (pc, ls, .int x :: st) M Q := by
  intro p e R s m args below meth c H locs cells slots mc ms la hC hF hN hc hs hmc hms hR hl hv
  exact m_if_W (X := X) hC.1 hC.2.1 (m_ok hi).1 (m_ok hi).2.1 (fun h => k1 h p e R s m args below meth c H locs cells slots mc ms la hC hF hN hc hs hmc hms hR hl hv) (fun h => k2 h p e R s m args below meth c H locs cells slots mc ms la hC hF hN hc hs hmc hms hR hl hv)
theorem Sp.icmp {q : ClassFile.Cond} {off : Int} {x y : Int32} {a b : Nat} (hi : m_i k pc = some (.if_icmp q off, a, b)) (k1 : m_cond q x y → Sp X k F N C S (a, ls, st) M Q) (k2 : ¬ m_cond q x y → Sp X k F N C S (pc + 3, ls, st) M Q) : Sp X k F N C S (pc, ls, .int y :: .int x :: st) M Q := by
  intro p e R s m args below meth c H locs cells slots mc ms la hC hF hN hc hs hmc hms hR hl hv
  exact m_icmp_W (X := X) hC.1 hC.2.1 (m_ok hi).1 (m_ok hi).2.1 (fun h => k1 h p e R s m args below meth c H locs cells slots mc ms la hC hF hN hc hs hmc hms hR hl hv) (fun h => k2 h p e R s m args below meth c H locs cells slots mc ms la hC hF hN hc hs hmc hms hR hl hv)
/-! fields -/
theorem Sp.get {idx ci j a : Nat} {fs : List Value} {v : Value} (hi : m_i k pc = some (.getfield idx, ci, j)) (hm : M.1 a = some (.inr (ci, fs))) (hj : fs[j]? = some v) (kk : Sp X k F N C S (pc + 3, ls, v :: st) M Q) : Sp X k F N C S (pc, ls, .ref a :: st) M Q := by
  intro p e R s m args below meth c H locs cells slots mc ms la hC hF hN hc hs hmc hms hR hl hv
  have K := kk p e R s m args below meth c H locs cells slots mc ms la hC hF hN hc hs hmc hms hR hl hv
  obtain ⟨hx, hb, hr, hn, hown, hlk, hnm, htb, hT⟩ := hC
  obtain ⟨hd, -, r, hr1, hjr, hlink⟩ := m_ok hi
  obtain ⟨C0, T0, N0⟩ := r
  obtain ⟨hin, -⟩ := m_cls hr1
  have hP : va_P X.D vwCl [(X.B + a, .inr (ci, fs.map (m_v X)))] H := fun q w hq => by
    have : w = (X.B + a, .inr (ci, fs.map (m_v X))) := by
      cases q with
      | zero => exact (Option.some.inj hq).symm
      | succ q => cases hq
    subst this
    exact (hR.2.1 a _ hm).2
  have hv' : (fs.map (m_v X))[j]? = some (m_v X v) := by rw [List.getElem?_map, hj]; rfl
  rcases hlink with hlink | hlink
  · exact va_get hx hb (fun w hw => hT.w hw args) hin hown hT.2.1 hP 0 rfl hr1 j hjr (hT.w hlink args) (fun _ h => h) hv' hd K
  · exact va_getN hx hb (fun w hw => hT.w hw args) hin hown hT.2.1 hP 0 rfl hr1 j hjr (hT.w hlink args) (fun _ h => h) hv' hd K
/-- which values a field of a type takes here -/
def m_fit : FieldType → Value → Bool
  | .int, .int _ => true
  | .object _, .ref _ => true
  | .array _, .ref _ => true
  | _, _ => false
theorem m_fit_ok {ty : FieldType} {v : Value} (h : m_fit ty v = true) : narrow ty (m_v X v) = m_v X v ∧ fits ty (m_v X v) = true := by
  cases ty <;> cases v <;> first | (exact ⟨rfl, rfl⟩) | (simp [m_fit] at h)
theorem Sp.put {idx ci j a : Nat} {fs : List Value} {v : Value} (hi : m_i k pc = some (.putfield idx, ci, j)) (hm : M.1 a = some (.inr (ci, fs))) (hj : j < fs.length) (hf : m_fit (m_ty ci j) v = true) (kk : Sp X k F N C S (pc + 3, ls, st) (m_put M a (.inr (ci, fs.set j v))) Q) : Sp X k F N C S (pc, ls, v :: .ref a :: st) M Q := by
  intro p e R s m args below meth c H locs cells slots mc ms la hC hF hN hc hs hmc hms hR hl hv
  have hC' := hC
  obtain ⟨hx, hb, hr, hn, hown, hlk, hnm, htb, hT⟩ := hC
  obtain ⟨hd, -, r, hr1, hjr, hlink⟩ := m_ok hi
  obtain ⟨C0, T0, N0⟩ := r
  obtain ⟨hin, hty, hnms⟩ := m_cls hr1
  have hts : ∀ w ∈ m_tall, w.before args s = true := fun w hw => hT.w hw args
  have hap := va_apart (own := (m_y k).cls) hts hin (m_ty ci) hty hnms hT.2.1 hr1
  obtain ⟨hnar, hfits⟩ := m_fit_ok (X := X) hf
  obtain ⟨r', h1, cell, q1, q2, q3, q4⟩ := (hR.2.1 a _ hm).2
  have hr' : r' = (C0, T0, N0) := Option.some.inj (h1.symm.trans hr1)
  subst hr'
  obtain ⟨hS, hfc, kC, hkC, hkind⟩ := hT.2.1.1 ci _ hr1
  obtain ⟨cf, kf, fi, f, hfi, hsl⟩ := hS j hjr
  have hst := (u_facts hfc hkC (u_lays hts hin hjr) hfi).1
  have hlt : f.slot < cell.slots.size := by rw [hsl]; exact k2_hasslot (q4 j hjr)
  have fin : ∀ H' : Heap, H'[X.B + a]? = some (cell.setSlot f.slot (m_v X v)) → H'.size = H.size → (∀ q, q ≠ X.B + a → H'[q]? = H[q]?) → W p X.l e R s m args below meth c H' (locs ++ [⟨X.B + a, f.slot⟩]) cells slots (m_Q X below s mc ms Q) (F0 m (pc + 3) la (st.map (m_v X))) := by
    intro H' e1 e2 e3
    rw [hsl] at e1
    refine kk p e R s m args below meth c H' _ cells slots mc ms la hC' hF hN hc hs hmc hms (hR.put hm e2 e3 ?_) (fun q hq => ?_) hv
    · refine ⟨_, hr1, t_OB.to (V := updV (vp_V (fs.map (m_v X))) j (m_v X v)) ⟨_, e1, q2, q3, t_set q4 hap hjr (m_v X v)⟩ (fun i _ => ?_)⟩
      show _ = vp_V ((fs.set j v).map (m_v X)) i
      rw [vp_updV_set (by rw [List.length_map]; exact hj), List.map_set]
    · rcases List.mem_append.mp hq with h | h
      · exact hl q h
      · rw [List.mem_singleton.mp h]; exact Nat.le_add_right _ _
  have hlay := hts _ (hin _ (u_in_lay hjr))
  unfold u_lay at hlay
  rcases hlink with ⟨hfin, hlink⟩ | ⟨hfin, hlink⟩ | ⟨hfin, hnmi, hdecl, hlink⟩
  · rw [if_neg (by rw [hfin]; decide)] at hlay
    have h6 := u_store hfc hkC hkind hlay hfi (hty j hjr) hnar hfits
    exact W.putK hx hb (f := f) ⟨hown, hts _ hlink, ⟨_, _, _, hfi⟩, hst⟩ (by rw [q2]; exact h6) q1 q3 hlt rfl rfl hd fin
  · rw [if_neg (by rw [hfin]; decide)] at hlay
    have h6 := u_store hfc hkC hkind hlay hfi (hty j hjr) hnar hfits
    exact va_WputK hx hb (f := f) hown (hts _ hlink) hfi hst (by rw [q2]; exact h6) q1 q3 hlt rfl rfl hd fin
  · rw [if_pos hfin] at hlay
    have hcf : m.cls = cf := by
      obtain ⟨_, _, c', _, _, _, -, -, hf', -, -, -, hown2, -⟩ := Cond.laysFinal_spec hlay
      have e1 : c' = cf := by have := hfi.symm.trans hf'; simp at this; exact this.1.symm
      rw [hdecl] at hown2
      rw [← e1]; exact Option.some.inj (hown.symm.trans hown2)
    have h6 := u_fits hfc hkC hkind (Or.inr hlay) hfi (hty j hjr) hnar hfits
    exact W.putFinK hx hb hown (hts _ hlink) hfi hst hcf (hnm.trans hnmi) (by rw [q2]; exact h6) q1 q3 hlt rfl rfl hd fin
/-! arrays -/
/-- i is the place j of an array of n -/
def m_ix (i : Int32) (j n : Nat) : Prop := ¬ i < 0 ∧ i.toNatClampNeg = j ∧ j < n
theorem m_ix.in {i : Int32} {j n : Nat} (h : m_ix i j n) : vp_in i n := by
  obtain ⟨h1, h2, h3⟩ := h
  rintro (q | q)
  · exact h1 q
  · omega
theorem m_one {H : Heap} (hR : m_R X M H) {a : Nat} {x : va_E} (hm : M.1 a = some x) : va_P X.D vwCl [(X.B + a, m_e X x)] H := fun q w hq => by
  have : w = (X.B + a, m_e X x) := by
    cases q with
    | zero => exact (Option.some.inj hq).symm
    | succ q => cases hq
  subst this
  exact (hR.2.1 a _ hm).2
theorem Sp.iald {a n j x0 y0 : Nat} {i : Int32} {f : Nat → Int32} (hi : m_i k pc = some (.iaload, x0, y0)) (hm : M.1 a = some (.inl (0, n, .inl f))) (hj : m_ix i j n) (kk : Sp X k F N C S (pc + 1, ls, .int (f j) :: st) M Q) : Sp X k F N C S (pc, ls, .int i :: .ref a :: st) M Q := by
  intro p e R s m args below meth c H locs cells slots mc ms la hC hF hN hc hs hmc hms hR hl hv
  have K := kk p e R s m args below meth c H locs cells slots mc ms la hC hF hN hc hs hmc hms hR hl hv
  rw [← hj.2.1] at K
  exact va_iald hC.1 hC.2.1 hC.2.2.2.2.2.2.2.2.2.1 (m_one hR hm) 0 0 rfl rfl hj.in (m_ok hi).1 K
theorem Sp.zald {a n j x0 y0 : Nat} {i : Int32} {f : Nat → Int32} (hi : m_i k pc = some (.baload, x0, y0)) (hm : M.1 a = some (.inl (2, n, .inl f))) (hj : m_ix i j n) (kk : Sp X k F N C S (pc + 1, ls, .int (f j) :: st) M Q) : Sp X k F N C S (pc, ls, .int i :: .ref a :: st) M Q := by
  intro p e R s m args below meth c H locs cells slots mc ms la hC hF hN hc hs hmc hms hR hl hv
  have K := kk p e R s m args below meth c H locs cells slots mc ms la hC hF hN hc hs hmc hms hR hl hv
  rw [← hj.2.1] at K
  exact va_zald hC.1 hC.2.1 hC.2.2.2.2.2.2.2.2.2.1 (m_one hR hm) 0 2 rfl rfl hj.in (m_ok hi).1 K
theorem Sp.lald {a n j x0 y0 : Nat} {i : Int32} {f : Nat → Int64} (hi : m_i k pc = some (.laload, x0, y0)) (hm : M.1 a = some (.inl (1, n, .inr (.inl f)))) (hj : m_ix i j n) (kk : Sp X k F N C S (pc + 1, ls, .long (f j) :: st) M Q) : Sp X k F N C S (pc, ls, .int i :: .ref a :: st) M Q := by
  intro p e R s m args below meth c H locs cells slots mc ms la hC hF hN hc hs hmc hms hR hl hv
  have K := kk p e R s m args below meth c H locs cells slots mc ms la hC hF hN hc hs hmc hms hR hl hv
  rw [← hj.2.1] at K
  exact va_lald hC.1 hC.2.1 hC.2.2.2.2.2.2.2.2.2.1 (m_one hR hm) 0 1 rfl rfl hj.in (m_ok hi).1 K
theorem Sp.aald {a n j x0 y0 : Nat} {i : Int32} {f : Nat → Option Nat} (hi : m_i k pc = some (.aaload, x0, y0)) (hm : M.1 a = some (.inl (3, n, .inr (.inr (.inr (.inr f)))))) (hj : m_ix i j n) (kk : Sp X k F N C S (pc + 1, ls, va_rf (f j) :: st) M Q) : Sp X k F N C S (pc, ls, .int i :: .ref a :: st) M Q := by
  intro p e R s m args below meth c H locs cells slots mc ms la hC hF hN hc hs hmc hms hR hl hv
  have K := kk p e R s m args below meth c H locs cells slots mc ms la hC hF hN hc hs hmc hms hR hl hv
  rw [← hj.2.1] at K
  have e1 : ∀ r : Option Nat, m_v X (va_rf r) = va_rf (r.map (X.B + ·)) := fun r => by cases r <;> rfl
  simp only [List.map_cons, e1] at K
  exact va_aldq hC.1 hC.2.1 hC.2.2.2.2.2.2.2.2.2.1 (m_one hR hm) 0 3 rfl rfl hj.in (m_ok hi).1 K
/-- the script -/
theorem Sp.sld {j r x0 y0 : Nat} {i : Int32} (hi : m_i k pc = some (.iaload, x0, y0)) (hj : m_ix i j X.L) (kk : Sp X k F N C S (pc + 1, ls, .int (X.xs j) :: st) M Q) : Sp X k F N C S (pc, ls, .int i :: .retAddr r :: st) M Q := by
  intro p e R s m args below meth c H locs cells slots mc ms la hC hF hN hc hs hmc hms hR hl hv
  have K := kk p e R s m args below meth c H locs cells slots mc ms la hC hF hN hc hs hmc hms hR hl hv
  rw [← hj.2.1] at K
  obtain ⟨hx, hb, hr, hn, hown, hlk, hnm, htb, hT⟩ := hC
  obtain ⟨scr, e1, e2, e3, e4, e5⟩ := hT.2.2.1
  have hcell : H[X.b]? = some scr := by rw [hR.2.2 X.b hT.2.2.2.1]; exact e1
  have hin := hj.in
  have hlt : i.toNatClampNeg < X.L := by rw [hj.2.1]; exact hj.2.2
  exact W.iald (v := .int (X.xs i.toNatClampNeg)) hx hb hcell e2 e3 (by rw [e4]; exact hin) (e5 _ hlt) rfl rfl (m_ok hi).1 K
theorem Sp.slen {r x0 y0 : Nat} (hi : m_i k pc = some (.arraylength, x0, y0)) (kk : Sp X k F N C S (pc + 1, ls, .int (Int32.ofNat X.L) :: st) M Q) : Sp X k F N C S (pc, ls, .retAddr r :: st) M Q := by
  intro p e R s m args below meth c H locs cells slots mc ms la hC hF hN hc hs hmc hms hR hl hv
  have K := kk p e R s m args below meth c H locs cells slots mc ms la hC hF hN hc hs hmc hms hR hl hv
  obtain ⟨hx, hb, hr, hn, hown, hlk, hnm, htb, hT⟩ := hC
  obtain ⟨scr, e1, e2, e3, e4, e5⟩ := hT.2.2.1
  have hcell : H[X.b]? = some scr := by rw [hR.2.2 X.b hT.2.2.2.1]; exact e1
  exact W.alen (n := Int32.ofNat X.L) hx hb hcell e2 (by rw [e4]) rfl rfl (m_ok hi).1 K
theorem m_locs {locs : List Loc} {a i : Nat} (hl : ∀ q ∈ locs, X.B ≤ q.base) : ∀ q ∈ locs ++ [(⟨X.B + a, i⟩ : Loc)], X.B ≤ q.base := fun q hq => by
  rcases List.mem_append.mp hq with h | h
  · exact hl q h
  · rw [List.mem_singleton.mp h]; exact Nat.le_add_right _ _
theorem Sp.iast {a n j x0 y0 : Nat} {i x : Int32} {f : Nat → Int32} (hi : m_i k pc = some (.iastore, x0, y0)) (hm : M.1 a = some (.inl (0, n, .inl f))) (hj : m_ix i j n) (kk : Sp X k F N C S (pc + 1, ls, st) (m_put M a (.inl (0, n, .inl (upd f j x)))) Q) : Sp X k F N C S (pc, ls, .int x :: .int i :: .ref a :: st) M Q := by
  intro p e R s m args below meth c H locs cells slots mc ms la hC hF hN hc hs hmc hms hR hl hv
  have hcell : H[X.B + a]? = some (arrV (X.dA 0) n (fun j => .int (f j))) := (hR.2.1 a _ hm).2
  refine W.iast hC.1 hC.2.1 hcell ((hC.2.2.2.2.2.2.2.2.2.1.2 0 _ rfl).1 n (fun j => .int (f j))) (fun q => by cases q) (by rw [arrV_size]; exact hj.in) rfl rfl (m_ok hi).1 fun H' e1 e2 e3 => ?_
  refine kk p e R s m args below meth c H' _ cells slots mc ms la hC hF hN hc hs hmc hms (hR.put hm e2 e3 ?_) (m_locs hl) hv
  show H'[X.B + a]? = some (arrV (X.dA 0) n (fun q => .int (upd f j x q)))
  rw [e1, arrV_store, hj.2.1]
  congr 2
  funext q
  by_cases hq : q = j
  · subst hq; simp [updV, upd]
  · simp [updV, upd, hq]
theorem Sp.zast {a n j x0 y0 : Nat} {i x : Int32} {f : Nat → Int32} (hi : m_i k pc = some (.bastore, x0, y0)) (hm : M.1 a = some (.inl (2, n, .inl f))) (hj : m_ix i j n) (h01 : x = 0 ∨ x = 1) (kk : Sp X k F N C S (pc + 1, ls, st) (m_put M a (.inl (2, n, .inl (upd f j x)))) Q) : Sp X k F N C S (pc, ls, .int x :: .int i :: .ref a :: st) M Q := by
  intro p e R s m args below meth c H locs cells slots mc ms la hC hF hN hc hs hmc hms hR hl hv
  have hcell : H[X.B + a]? = some (arrV (X.dA 2) n (fun j => .int (f j))) := (hR.2.1 a _ hm).2
  refine W.zast hC.1 hC.2.1 hcell ((hC.2.2.2.2.2.2.2.2.2.1.2 2 _ rfl).1 n (fun j => .int (f j))) (fun q => by cases q) (by rw [arrV_size]; exact hj.in) rfl rfl (m_ok hi).1 fun H' e1 e2 e3 => ?_
  refine kk p e R s m args below meth c H' _ cells slots mc ms la hC hF hN hc hs hmc hms (hR.put hm e2 e3 ?_) (m_locs hl) hv
  show H'[X.B + a]? = some (arrV (X.dA 2) n (fun q => .int (upd f j x q)))
  have hnar : narrow .boolean (.int x) = .int x := by rcases h01 with rfl | rfl <;> rfl
  rw [e1, hnar, arrV_store, hj.2.1]
  congr 2
  funext q
  by_cases hq : q = j
  · subst hq; simp [updV, upd]
  · simp [updV, upd, hq]
theorem Sp.last {a n j x0 y0 : Nat} {i : Int32} {x : Int64} {f : Nat → Int64} (hi : m_i k pc = some (.lastore, x0, y0)) (hm : M.1 a = some (.inl (1, n, .inr (.inl f)))) (hj : m_ix i j n) (kk : Sp X k F N C S (pc + 1, ls, st) (m_put M a (.inl (1, n, .inr (.inl (vp_updL f j x))))) Q) : Sp X k F N C S (pc, ls, .long x :: .int i :: .ref a :: st) M Q := by
  intro p e R s m args below meth c H locs cells slots mc ms la hC hF hN hc hs hmc hms hR hl hv
  have hcell : H[X.B + a]? = some (arrV (X.dA 1) n (fun j => .long (f j))) := (hR.2.1 a _ hm).2
  refine W.last hC.1 hC.2.1 hcell ((hC.2.2.2.2.2.2.2.2.2.1.2 1 _ rfl).1 n (fun j => .long (f j))) (fun q => by cases q) (by rw [arrV_size]; exact hj.in) rfl rfl (m_ok hi).1 fun H' e1 e2 e3 => ?_
  refine kk p e R s m args below meth c H' _ cells slots mc ms la hC hF hN hc hs hmc hms (hR.put hm e2 e3 ?_) (m_locs hl) hv
  show H'[X.B + a]? = some (arrV (X.dA 1) n (fun q => .long (vp_updL f j x q)))
  rw [e1, arrV_store, hj.2.1]
  congr 2
  funext q
  by_cases hq : q = j
  · subst hq; simp [updV, vp_updL]
  · simp [updV, vp_updL, hq]
/-- a reference to a Parcel, into the row of parcels -/
theorem Sp.aast {a n j v x0 y0 ci : Nat} {i : Int32} {vs : List Value} {f : Nat → Option Nat} (hi : m_i k pc = some (.aastore, x0, y0)) (hm : M.1 a = some (.inl (3, n, .inr (.inr (.inr (.inr f)))))) (hv : M.1 v = some (.inr (ci, vs))) (hci : m_cname ci = m_parcel) (hj : m_ix i j n)
    (kk : Sp X k F N C S (pc + 1, ls, st) (m_put M a (.inl (3, n, .inr (.inr (.inr (.inr (va_up f j (some v)))))))) Q) : Sp X k F N C S (pc, ls, .ref v :: .int i :: .ref a :: st) M Q := by
  intro p e R s m args below meth c H locs cells slots mc ms la hC hF hN hc hs hmc hms hR hl hla
  have hcell : H[X.B + a]? = some (arrV (X.dA 3) n (fun j => va_rf ((f j).map (X.B + ·)))) := (hR.2.1 a _ hm).2
  obtain ⟨r, hr1, cellV, g1, g2, g3, -⟩ := (hR.2.1 v _ hv).2
  have hK := hC.2.2.2.2.2.2.2.2.2.1
  have hcls := (hK.1 ci r hr1).2
  have hnm : r.1 = m_parcel := (m_cname_ok hr1).symm.trans hci
  obtain ⟨kA, comp, k1, k2, k3, -⟩ := (hK.2 3 _ rfl).2
  rw [hnm] at hcls
  have hcomp : comp = X.D.1 ci := Option.some.inj (k3.symm.trans hcls.1)
  subst hcomp
  obtain ⟨kC, hkC, -⟩ := hcls.2
  refine W.aast hC.1 hC.2.1 hcell (fun q h => by cases h) (fun h => by cases h) k1 k2 rfl hkC ⟨hj.1, by rw [arrV_size, hj.2.1]; exact hj.2.2⟩ g1 (fun q h => by rw [g3] at h; cases h) (by rw [g2]; exact hkC) (by rw [g2]; exact va_assign hcls) rfl rfl (m_ok hi).1 fun H' e1 e2 e3 => ?_
  refine kk p e R s m args below meth c H' _ cells slots mc ms la hC hF hN hc hs hmc hms (hR.put hm e2 e3 ?_) (m_locs hl) hla
  show H'[X.B + a]? = some (arrV (X.dA 3) n (fun q => va_rf ((va_up f j (some v) q).map (X.B + ·))))
  rw [e1, arrV_store, hj.2.1]
  congr 2
  funext q
  by_cases hq : q = j
  · subst hq; simp [updV, va_up, va_rf]
  · simp [updV, va_up, hq]
theorem m_zero_ok {ci : Nat} {C : String} {T : u_T} {N n : Nat} {fs : List Value} (h : vwCl[ci]? = some (C, T, N)) (hz : m_zero ci = (n, fs)) : N = n ∧ ∀ (X : mX) (j : Nat), j < N → defaultValue (m_ty ci j) = vp_V (fs.map (m_v X)) j := by
  match ci, h, hz with
  | 0, h, hz =>
    cases h; cases hz
    refine ⟨rfl, fun X j hj => ?_⟩
    have : j = 0 ∨ j = 1 ∨ j = 2 ∨ j = 3 ∨ j = 4 ∨ j = 5 ∨ j = 6 := by omega
    rcases this with rfl | rfl | rfl | rfl | rfl | rfl | rfl <;> rfl
  | 1, h, hz =>
    cases h; cases hz
    refine ⟨rfl, fun X j hj => ?_⟩
    have : j = 0 ∨ j = 1 ∨ j = 2 ∨ j = 3 ∨ j = 4 := by omega
    rcases this with rfl | rfl | rfl | rfl | rfl <;> rfl
  | 2, h, hz =>
    cases h; cases hz
    refine ⟨rfl, fun X j hj => ?_⟩
    have : j = 0 ∨ j = 1 := by omega
    rcases this with rfl | rfl <;> rfl
  | 3, h, hz =>
    cases h; cases hz
    refine ⟨rfl, fun X j hj => ?_⟩
    have : j = 0 ∨ j = 1 ∨ j = 2 ∨ j = 3 ∨ j = 4 := by omega
    rcases this with rfl | rfl | rfl | rfl | rfl <;> rfl
  | 4, h, hz =>
    cases h; cases hz
    refine ⟨rfl, fun X j hj => ?_⟩
    have : j = 0 ∨ j = 1 ∨ j = 2 ∨ j = 3 ∨ j = 4 ∨ j = 5 ∨ j = 6 ∨ j = 7 ∨ j = 8 ∨ j = 9 ∨ j = 10 ∨ j = 11 ∨ j = 12 ∨ j = 13 ∨ j = 14 := by omega
    rcases this with rfl | rfl | rfl | rfl | rfl | rfl | rfl | rfl | rfl | rfl | rfl | rfl | rfl | rfl | rfl <;> rfl
  | _ + 5, h, hz => cases h
/-! new cells -/
theorem Sp.new {idx ci b0 n : Nat} {fs : List Value} (hi : m_i k pc = some (.new idx, ci, b0)) (hb0 : b0 = 0) (hfs : m_zero ci = (n, fs)) (h1 : 1 ≤ C) (h2 : n ≤ S) (kk : Sp X k F N (C - 1) (S - n) (pc + 3, ls, .ref M.2.1 :: st) (m_new M (some (.inr (ci, fs))) n) Q) : Sp X k F N C S (pc, ls, st) M Q := by
  intro p e R s m args below meth c H locs cells slots mc ms la hC hF hN hc hs hmc hms hR hl hv
  have hC' := hC
  obtain ⟨hx, hb, hr, hn, hown, hlk, hnm, htb, hT⟩ := hC
  obtain ⟨hd, -, hnw, -⟩ := m_ok hi
  obtain ⟨r, hr1, hcl, hins, hini⟩ := hnw hb0
  obtain ⟨C0, T0, N0⟩ := r
  obtain ⟨hin, hty, hnms⟩ := m_cls hr1
  have hts : ∀ w ∈ m_tall, w.before args s = true := fun w hw => hT.w hw args
  have hKn := hT.2.1.1 ci _ hr1
  obtain ⟨hz1, hz2⟩ := m_zero_ok hr1 hfs
  subst hz1
  refine W.newcK (n := N0) (C := C0) hx hb hown (hts _ hcl) (hts _ hins) (hts _ hini) rfl hd (by omega) (by omega) hKn.2.1 hR.1 fun H' kC hkC e1 e2 e3 => ?_
  refine kk p e R s m args below meth c H' locs (cells + 1) (slots + N0) mc ms la hC' hF hN (by omega) (by omega) hmc hms (hR.new (by rw [e2, hR.1]) (fun q hq => e3 q (by rw [← hR.1]; exact hq)) (fun y hy => ?_)) hl hv
  cases hy
  refine ⟨_, hr1, t_OB.to (u_born (m_ty ci) hts hin hKn hkC e1 hty) fun j hj => ?_⟩
  exact hz2 X j hj
theorem Sp.newi {a0 b0 n : Nat} {x : Int32} (hi : m_i k pc = some (.newarray .int, a0, b0)) (hx0 : ¬ x < 0) (hx1 : x.toNatClampNeg = n) (hn1 : n ≤ 100000) (h1 : 1 ≤ C) (h2 : n ≤ S) (kk : Sp X k F N (C - 1) (S - n) (pc + 2, ls, .ref M.2.1 :: st) (m_new M (some (.inl (0, n, .inl fun _ => 0))) n) Q) : Sp X k F N C S (pc, ls, .int x :: st) M Q := by
  intro p e R s m args below meth c H locs cells slots mc ms la hC hF hN hc hs hmc hms hR hl hv
  have hC' := hC
  obtain ⟨hx, hb, hr, hn, hown, hlk, hnm, htb, hT⟩ := hC
  obtain ⟨hd, -, hw⟩ := m_ok hi
  refine va_newaK (H := H) hx hb (hT.w hw args) rfl hd rfl hx0 hx1 (by show n * 4 ≤ _; omega) (by omega) (by omega) hR.1 fun H' cA e1 e2 e3 hA hfc => ?_
  have hcA : cA = X.dA 0 := Option.some.inj (hfc.symm.trans (hT.2.1.2 0 _ rfl).2)
  subst hcA
  refine kk p e R s m args below meth c H' locs (cells + 1) (slots + n) mc ms la hC' hF hN (by omega) (by omega) hmc hms (hR.new (by rw [e2, hR.1]) (fun q hq => e3 q (by rw [← hR.1]; exact hq)) (fun y hy => ?_)) hl hv
  cases hy
  exact e1
theorem Sp.newz {a0 b0 n : Nat} {x : Int32} (hi : m_i k pc = some (.newarray .boolean, a0, b0)) (hx0 : ¬ x < 0) (hx1 : x.toNatClampNeg = n) (hn1 : n ≤ 100000) (h1 : 1 ≤ C) (h2 : n ≤ S) (kk : Sp X k F N (C - 1) (S - n) (pc + 2, ls, .ref M.2.1 :: st) (m_new M (some (.inl (2, n, .inl fun _ => 0))) n) Q) : Sp X k F N C S (pc, ls, .int x :: st) M Q := by
  intro p e R s m args below meth c H locs cells slots mc ms la hC hF hN hc hs hmc hms hR hl hv
  have hC' := hC
  obtain ⟨hx, hb, hr, hn, hown, hlk, hnm, htb, hT⟩ := hC
  obtain ⟨hd, -, hw⟩ := m_ok hi
  refine va_newaK (H := H) hx hb (hT.w hw args) rfl hd rfl hx0 hx1 (by show n * 1 ≤ _; omega) (by omega) (by omega) hR.1 fun H' cA e1 e2 e3 hA hfc => ?_
  have hcA : cA = X.dA 2 := Option.some.inj (hfc.symm.trans (hT.2.1.2 2 _ rfl).2)
  subst hcA
  refine kk p e R s m args below meth c H' locs (cells + 1) (slots + n) mc ms la hC' hF hN (by omega) (by omega) hmc hms (hR.new (by rw [e2, hR.1]) (fun q hq => e3 q (by rw [← hR.1]; exact hq)) (fun y hy => ?_)) hl hv
  cases hy
  exact e1
theorem Sp.newl {a0 b0 n : Nat} {x : Int32} (hi : m_i k pc = some (.newarray .long, a0, b0)) (hx0 : ¬ x < 0) (hx1 : x.toNatClampNeg = n) (hn1 : n ≤ 100000) (h1 : 1 ≤ C) (h2 : n ≤ S) (kk : Sp X k F N (C - 1) (S - n) (pc + 2, ls, .ref M.2.1 :: st) (m_new M (some (.inl (1, n, .inr (.inl fun _ => 0)))) n) Q) : Sp X k F N C S (pc, ls, .int x :: st) M Q := by
  intro p e R s m args below meth c H locs cells slots mc ms la hC hF hN hc hs hmc hms hR hl hv
  have hC' := hC
  obtain ⟨hx, hb, hr, hn, hown, hlk, hnm, htb, hT⟩ := hC
  obtain ⟨hd, -, hw⟩ := m_ok hi
  refine va_newaK (H := H) hx hb (hT.w hw args) rfl hd rfl hx0 hx1 (by show n * 8 ≤ _; omega) (by omega) (by omega) hR.1 fun H' cA e1 e2 e3 hA hfc => ?_
  have hcA : cA = X.dA 1 := Option.some.inj (hfc.symm.trans (hT.2.1.2 1 _ rfl).2)
  subst hcA
  refine kk p e R s m args below meth c H' locs (cells + 1) (slots + n) mc ms la hC' hF hN (by omega) (by omega) hmc hms (hR.new (by rw [e2, hR.1]) (fun q hq => e3 q (by rw [← hR.1]; exact hq)) (fun y hy => ?_)) hl hv
  cases hy
  exact e1
theorem Sp.newq {a0 b0 n idx : Nat} {x : Int32} (hi : m_i k pc = some (.anewarray idx, a0, b0)) (hx0 : ¬ x < 0) (hx1 : x.toNatClampNeg = n) (hn1 : n ≤ 100000) (h1 : 1 ≤ C) (h2 : n ≤ S) (kk : Sp X k F N (C - 1) (S - n) (pc + 3, ls, .ref M.2.1 :: st) (m_new M (some (.inl (3, n, .inr (.inr (.inr (.inr fun _ => none)))))) n) Q) : Sp X k F N C S (pc, ls, .int x :: st) M Q := by
  intro p e R s m args below meth c H locs cells slots mc ms la hC hF hN hc hs hmc hms hR hl hv
  have hC' := hC
  obtain ⟨hx, hb, hr, hn, hown, hlk, hnm, htb, hT⟩ := hC
  obtain ⟨hd, -, hw1, hw2⟩ := m_ok hi
  subst hx1
  refine W.anew (H := H) hx hb hown (hT.w hw1 args) (hT.w hw2 args) rfl hd rfl hx0 (by omega) (by omega) (by omega) fun cA kA comp f1 f2 f3 f4 => ?_
  have hcA : cA = X.dA 3 := by
    obtain ⟨_, _, _, _, _, h9⟩ := (hT.2.1.2 3 _ rfl).2
    exact Option.some.inj (f1.symm.trans h9)
  subst hcA
  have hsz : H.size = X.B + M.2.1 := hR.1
  rw [hsz]
  refine kk p e R s m args below meth c _ locs (cells + 1) (slots + x.toNatClampNeg) mc ms la hC' hF hN (by omega) (by omega) hmc hms (hR.new (by rw [Array.size_push]) (fun q hq => by rw [Array.getElem?_push, if_neg (Nat.ne_of_lt hq)]) (fun y hy => ?_)) hl hv
  cases hy
  show _ = some (arrV (X.dA 3) x.toNatClampNeg (fun _ => .null))
  rw [← hsz, Array.getElem?_push_size, ← arrV_new]
/-! ends -/
theorem m_end {p : Program} {e : Env} {R : Room} {s : State} {m : MethodId} {args : Array Value} {below : List Frame} {meth : Method} {c : Code} {H : Heap} {locs : List Loc} {mc ms : Nat} {g : JFrame} {v : Option Value} (hR : m_R X M H) (hq : Q (.returned v) M)
    (h : W p X.l e R s m args below meth c H locs mc ms (MQ below (fun _ _ o t => o = .returned (v.map (m_v X)) ∧ t.heap = H) args s mc ms (fun q => X.B ≤ q)) g) : W p X.l e R s m args below meth c H locs mc ms (m_Q X below s mc ms Q) g := by
  intro T hT Y
  obtain ⟨t, st, o, h1, h2, h3, L, h4, h5⟩ := h T hT Y
  exact ⟨t, st, o, .returned v, M, L, h1, h2, h4.2.1, h4.2.2, h5, hq, by rw [h3.2]; exact hR, h3.1⟩
theorem Sp.iret {x0 y0 : Nat} {x : Int32} (hi : m_i k pc = some (.ireturn, x0, y0)) (hr : m_r k = some .int ∨ (m_r k = some .boolean ∧ (x = 0 ∨ x = 1))) (hq : Q (.returned (some (.int x))) M) : Sp X k F N C S (pc, ls, [.int x]) M Q := by
  intro p e R s m args below meth c H locs cells slots mc ms la hC hF hN hc hs hmc hms hR hl hv
  refine W.widen (k := mc) (n := ms) (by omega) (by omega) (m_end (v := some (.int x)) hR hq ?_)
  have hlocks : meth.locks = false := hC.2.2.2.2.2.1
  rcases hr with hr | ⟨hr, h01⟩
  · exact W.iret hC.1 hC.2.1 (hC.2.2.1.trans hr) (fun t h _ => ⟨rfl, h⟩) hl (m_ok hi).1
  · exact W.zret hC.1 hC.2.1 (hC.2.2.1.trans hr) (by rcases h01 with rfl | rfl <;> rfl) (fun t h _ => ⟨rfl, h⟩) hl (m_ok hi).1
theorem Sp.lret {x0 y0 : Nat} {x : Int64} (hi : m_i k pc = some (.lreturn, x0, y0)) (hr : m_r k = some .long) (hq : Q (.returned (some (.long x))) M) : Sp X k F N C S (pc, ls, [.long x]) M Q := by
  intro p e R s m args below meth c H locs cells slots mc ms la hC hF hN hc hs hmc hms hR hl hv
  refine W.widen (k := mc) (n := ms) (by omega) (by omega) (m_end (v := some (.long x)) hR hq ?_)
  have hlocks : meth.locks = false := hC.2.2.2.2.2.1
  exact W.lret hC.1 hC.2.1 (hC.2.2.1.trans hr) (fun t h _ => ⟨rfl, h⟩) hl (m_ok hi).1
theorem Sp.vret {x0 y0 : Nat} (hi : m_i k pc = some (.return_, x0, y0)) (hr : m_r k = none) (hq : Q (.returned none) M) : Sp X k F N C S (pc, ls, []) M Q := by
  intro p e R s m args below meth c H locs cells slots mc ms la hC hF hN hc hs hmc hms hR hl hv
  refine W.widen (k := mc) (n := ms) (by omega) (by omega) (m_end (v := none) hR hq ?_)
  have hlocks : meth.locks = false := hC.2.2.2.2.2.1
  exact W.vret hC.1 hC.2.1 (hC.2.2.1.trans hr) (fun t h _ => ⟨rfl, h⟩) hl (m_ok hi).1
theorem Sp.aret {x0 y0 : Nat} {v : Value} {nm : String} (hi : m_i k pc = some (.areturn, x0, y0)) (hr : m_r k = some (.object nm)) (hv0 : v = .null ∨ ∃ a, v = .ref a) (hq : Q (.returned (some v)) M) : Sp X k F N C S (pc, ls, [v]) M Q := by
  intro p e R s m args below meth c H locs cells slots mc ms la hC hF hN hc hs hmc hms hR hl hv
  refine W.widen (k := mc) (n := ms) (by omega) (by omega) (m_end (v := some v) hR hq ?_)
  have hlocks : meth.locks = false := hC.2.2.2.2.2.1
  exact W.aret hC.1 hC.2.1 (hC.2.2.1.trans hr) (Or.inl ⟨_, rfl⟩) (by rcases hv0 with rfl | ⟨a, rfl⟩; exact Or.inl rfl; exact Or.inr ⟨_, rfl⟩) (fun t h _ => ⟨rfl, h⟩) hl (m_ok hi).1
/-! Object.<init>, Math.max -/
theorem m_sum (st : List Value) : ((st.map (m_v X)).map fun v => v.category).sum = (st.map fun v => v.category).sum := by
  rw [List.map_map]
  congr 1
  exact List.map_congr_left fun v _ => m_v_cat X v
theorem Sp.obj {idx a b0 : Nat} (hi : m_i k pc = some (.invokespecial idx, 1000, b0)) (hF1 : 1 ≤ F) (hN1 : (st.map fun v => v.category).sum + 12 ≤ N) (kk : Sp X k F N C S (pc + 3, ls, st) M Q) : Sp X k F N C S (pc, ls, .ref a :: st) M Q := by
  intro p e R s m args below meth c H locs cells slots mc ms la hC hF hN hc hs hmc hms hR hl hv
  have K := kk p e R s m args below meth c H locs cells slots mc ms la hC hF hN hc hs hmc hms hR hl hv
  obtain ⟨hx, hb, hr, hn, hown, hlk, hnm, htb, hT⟩ := hC
  obtain ⟨hd, -, h9⟩ := m_ok hi
  obtain ⟨w1, w2, w3⟩ := h9.1 rfl
  exact W.objInit hx hb hown (hT.w w1 args) (hT.w w2 args) (hT.w w3 args) rfl (by rw [hn]; exact hv.1) rfl hd (by omega) (by show 2 * 0 + _ + 12 ≤ _; rw [m_sum]; omega) K
theorem Sp.max {idx b0 : Nat} {x y : Int32} (hi : m_i k pc = some (.invokestatic idx, 1000, b0)) (hF1 : 1 ≤ F) (hN1 : (st.map fun v => v.category).sum + 13 ≤ N) (kk : Sp X k F N C S (pc + 3, ls, .int (if x < y then y else x) :: st) M Q) : Sp X k F N C S (pc, ls, .int y :: .int x :: st) M Q := by
  intro p e R s m args below meth c H locs cells slots mc ms la hC hF hN hc hs hmc hms hR hl hv
  have K := kk p e R s m args below meth c H locs cells slots mc ms la hC hF hN hc hs hmc hms hR hl hv
  obtain ⟨hx, hb, hr, hn, hown, hlk, hnm, htb, hT⟩ := hC
  obtain ⟨hd, -, h9⟩ := m_ok hi
  obtain ⟨w1, w2, w3, w4⟩ := h9.1 rfl
  exact va_mmax hx hb (hn.trans hv.1.symm) hown (hT.w w1 args) (hT.w w2 args) (hT.w w3 args) (hT.w w4 args) (by omega) (by rw [m_sum]; omega) (by omega) (by omega) hd K
end SP
end
section
/-! Calls: into the method called, and out of it again, by its end or by what it throws. -/
section SC
variable {X : mX} {k k' F N C S F' N' C' S' : Nat} {pc : Nat} {ls : List (Nat × Value)} {M : mM} {Q Qc : Outcome → mM → Prop}
theorem m_weaken {tb : Tables} {e : Env} {g : Frame} {below : List Frame} {a b : State} (h : Steps tb e (g :: below) a b) : Steps tb e below a b := by
  obtain ⟨n, hn, hw⟩ := h
  exact ⟨n, hn, fun k hk => Within.weaken (mid := [g]) (hw k hk)⟩
theorem m_fact.spec {s : State} {mk : MethodId} {a : Nat} (hf : m_fact a) (hT : m_T X s) (hn : s.methodNamed? (m_y a) = some mk) : ∃ meth c, s.vm.method? mk = some meth ∧ meth.code = some c ∧ c.code = m_b a ∧ c.maxLocals = m_n a ∧ meth.sig.returnType = m_r a ∧ meth.locks = false ∧ c.exceptionTable.toList.map (fun h => (h.startPc, h.endPc, h.handlerPc, h.catchType)) = m_h a ∧ parseMethodDescriptor (m_y a).desc = some meth.sig := by
  rcases hf.1 with ⟨h0, hw⟩ | hw
  · obtain ⟨meth, c, h1, h2, h3, h4, h5, h6, h7, h8⟩ := Cond.code_spec hn (hT.w hw #[])
    refine ⟨meth, c, h1, h2, h3, h4, h5, h6, ?_, h8⟩
    rw [h0, Array.isEmpty_iff.mp h7]
    rfl
  · obtain ⟨m', meth, c, h0, h1, h2, h3, h4, h5, h6, h7, h8⟩ := Cond.codeWith_spec (hT.w hw #[])
    cases Option.some.inj (h0.symm.trans hn)
    exact ⟨meth, c, h1, h2, h3, h4, h6, h7, h5, h8⟩
theorem m_fact.named {s : State} {a : Nat} (hf : m_fact a) (hT : m_T X s) : ∃ mk, s.methodNamed? (m_y a) = some mk := by
  rcases hf.1 with ⟨-, hw⟩ | hw
  · exact Cond.code_named (hT.w hw #[])
  · obtain ⟨m', _, _, h0, -⟩ := Cond.codeWith_spec (hT.w hw #[])
    exact ⟨m', h0⟩
theorem m_lv_args (X : mX) (vs : List Value) : ∀ i : Nat, lv_args i (vs.map (m_v X)) = m_lv X (lv_args i vs) := by
  induction vs with
  | nil => intro i; rfl
  | cons v t ih =>
    intro i
    simp only [List.map_cons, lv_args, m_lv]
    rw [m_v_cat, ih]
    rfl
set_option maxHeartbeats 4000000 in
/-- from the caller's frame, at the call's entry, to what the caller finds behind it -/
theorem m_into {p : Program} {e : Env} {R : Room} {s : State} {m : MethodId} {args : Array Value} {below : List Frame} {meth : Method} {c : Code} {T : State} {locs : List Loc} {cells slots : Nat} {Qf : State → Prop} {vs : List Value}
    (hsp : Sp X k' F' N' C' S' (0, lv_args 0 vs, []) M Qc) (hf : m_fact k') (hexec : p.tables.exec = Jvm.exec) (hTs : m_T X s) (Y : Stand p X.l e R s m args below meth c T locs cells slots) (hR : m_R X M T.heap)
    {g : JFrame} (hg : g.method = m) (hsize : g.locals.size = c.maxLocals) {ig : Instr} {len : Nat} (hdg : decode c.code g.pc = .ok (ig, len)) {mk : MethodId} (hn : s.methodNamed? (m_y k') = some mk)
    (hmr : g.monitorRoom = 0) (hw : (g.stack.map fun v => v.category).sum ≤ 8) (hF : F' + 1 ≤ R.frames) (hN : 8 + (m_n k' + 11) + N' ≤ R.locals) (hc : cells + C' ≤ R.cells) (hs : slots + S' ≤ R.slots) (hnv : (lg_sl vs).length ≤ m_n k')
    (kr : ∀ (v : Option Value) (M' : mM) (T' : State) (L : List Loc), Qc (.returned v) M' → Stand p X.l e R s m args below meth c T' (locs ++ L) (cells + C') (slots + S') → m_R X M' T'.heap → (∀ q ∈ L, X.B ≤ q.base) →
      ∃ t, Steps p.tables e below (T'.setTop { g with pc := g.pc + len, stack := (v.map (m_v X)).toList ++ g.stack }) t ∧ Qf t)
    (kt : ∀ (x : Nat) (M' : mM) (T' : State) (L : List Loc) (ce : Cell), Qc (.threw x) M' → Stand p X.l e R s m args below meth c T' (locs ++ L) (cells + C') (slots + S') → m_R X M' T'.heap → (∀ q ∈ L, X.B ≤ q.base) → T'.heap[X.B + (M'.2.1 - 1)]? = some ce → ce.vm = .none → s.vm.findClass (m_exc x) = some ce.cls →
      ∃ t, Steps p.tables e below ((T'.setTop g).pushFrame (.throwing (X.B + (M'.2.1 - 1)))) t ∧ Qf t) :
    ∃ t, Steps p.tables e below (doInvoke e (T.setTop g) [] mk (vs.map (m_v X)).toArray).1 t ∧ Qf t := by
  have hnT : T.methodNamed? (m_y k') = some mk := Y.named hn
  have hTT : m_T X T := hTs.moved Y.warmed
  obtain ⟨methk, ck, h1, h2, h3, h4, h5, h6, h7, h8⟩ := m_fact.spec hf hTT hnT
  have hpk : T.plainMethod mk := State.plainMethod.of_named hf.2.2.1 hnT h1
  obtain ⟨Y0, hin⟩ := Y.into hg hsize hdg (vs.map (m_v X)).toArray (R' := { frames := F', locals := N', cells := C', slots := S' }) h1 h2 h6 hpk hF (by rw [hmr, h4]; show 2 * 0 + _ + _ + N' ≤ _; omega) hc hs
  have hvm : (T.calling g mk (vs.map (m_v X)).toArray).vm = T.vm := rfl
  have hCk : m_C X k' p (T.calling g mk (vs.map (m_v X)).toArray) mk methk ck := by
    refine ⟨hexec, h3, h5, h4, ?_, h6, (name_of_methodNamed hnT h1).1, h7, ?_⟩
    · exact findClass_of_methodNamed hnT
    · exact hTT.moved (State.WarmedH.refl T)
  have hheap : ((T.setTop g).pushFrame (.java (entryFrame mk (vs.map (m_v X)).toArray ck.maxLocals))).heap = T.heap := by
    simp [State.pushFrame, State.setFrames, State.setTop, State.modifyTopJava]
  have hlv : lv_has ((lg_sl (vs.map (m_v X)) ++ List.replicate (m_n k' - (lg_sl (vs.map (m_v X))).length) Slot.unset).toArray) (m_n k') (m_lv X (lv_args 0 vs)) := by
    rw [← m_lv_args]
    exact lv_entry _ (by
      have : ∀ us : List Value, (lg_sl (us.map (m_v X))).length = (lg_sl us).length := fun us => by
        induction us with
        | nil => rfl
        | cons u us ih =>
          simp only [lg_sl, List.map_cons, List.flatMap_cons, List.length_append] at ih ⊢
          rw [ih, m_v_cat]
          by_cases h : u.category = 2 <;> simp [h]
      rw [this]; exact hnv)
  have hW := hsp p e { frames := F', locals := N', cells := C', slots := S' } (T.calling g mk (vs.map (m_v X)).toArray) mk (vs.map (m_v X)).toArray (.java g :: below) methk ck T.heap [] 0 0 C' S' _ hCk (Nat.le_refl _) (Nat.le_refl _) (by omega) (by omega) (Nat.le_refl _) (Nat.le_refl _) hR (fun q hq => nomatch hq) hlv
  obtain ⟨t, st, o, po, M', L, g1, g2, g3, g4, g5, g6, g7, g8⟩ := hW _ hheap Y0
  have hst : Steps p.tables e below (doInvoke e (T.setTop g) [] mk (vs.map (m_v X)).toArray).1 t := by
    rw [hin []]
    rw [h4, lg_entry_eq]
    rw [h4, lg_entry_eq] at st
    exact m_weaken st
  cases po with
  | returned v =>
    have ho : o = .returned (v.map (m_v X)) := g8
    subst ho
    obtain ⟨T', Y', hW', hsm, ht⟩ := Y.outOf hg hdg g2 g3 g4
    have hth : t.heap = T'.heap := by rw [ht]; simp [State.setTop, State.modifyTopJava]
    obtain ⟨t2, q1, q2⟩ := kr v M' T' L g6 Y' (by rw [← hth]; exact g7) g5
    exact ⟨t2, hst.trans (by rw [ht]; exact q1), q2⟩
  | threw x =>
    obtain ⟨ce, ho, hce, hcv, hcl⟩ := g8
    subst ho
    obtain ⟨T', Y', hW', hsm, ht⟩ := Y.outOfThrown hg g2 g3 g4
    have hth : t.heap = T'.heap := by rw [ht]; simp [State.pushFrame, State.setFrames, State.setTop, State.modifyTopJava]
    have hcl' : s.vm.findClass (m_exc x) = some ce.cls := by
      have h9 : T.vm.findClass (m_exc x) = some ce.cls := hcl
      rw [Y.warmed.alike.findClass] at h9
      exact h9
    obtain ⟨t2, q1, q2⟩ := kt x M' T' L ce g6 Y' (by rw [← hth]; exact g7) g5 (by rw [← hth]; exact hce) hcv hcl'
    exact ⟨t2, hst.trans (by rw [ht]; exact q1), q2⟩
end SC
/-! What was thrown, in the caller: out again, or to a row of its table. -/
def m_cov (k pc : Nat) : Bool := (m_h k).any fun r => decide (r.1 ≤ pc) && decide (pc < r.2.1)
def m_hand : List (Nat × Nat × Nat × Nat) → List Nat → Nat → Nat → Option Nat
  | r :: t, x :: xs, pc, q => if (decide (r.1 ≤ pc) && decide (pc < r.2.1)) = true then (if x = q then some r.2.2.1 else m_hand t xs pc q) else m_hand t xs pc q
  | _, _, _, _ => none
def m_hok (cls : String) : List (Nat × Nat × Nat × Nat) → List Nat → Prop
  | r :: t, x :: xs => (r.2.2.2 ≠ 0 ∧ Cond.classLink cls r.2.2.2 (m_exc x) ∈ m_tall ∧ x < 3) ∧ m_hok cls t xs
  | _, _ => True
def m_thrown (X : mX) (k F N C S pc : Nat) (ls : List (Nat × Value)) (q : Nat) (M : mM) (Q : Outcome → mM → Prop) : Prop :=
  (m_cov k pc = false ∧ Q (.threw q) M) ∨ ∃ h, m_hand (m_h k) (m_hx k) pc q = some h ∧ Sp X k F N C S (h, ls, [.ref (M.2.1 - 1)]) M Q
theorem m_hall : ∀ k : Nat, m_hok (m_y k).cls (m_h k) (m_hx k)
  | 0 => trivial
  | 1 => trivial
  | 2 => trivial
  | 3 => trivial
  | 4 => trivial
  | 5 => trivial
  | 6 => trivial
  | 7 => trivial
  | 8 => trivial
  | 9 => trivial
  | 10 => trivial
  | 11 => trivial
  | 12 => trivial
  | 13 => trivial
  | 14 => trivial
  | 15 => trivial
  | 16 => trivial
  | 17 => trivial
  | 18 => trivial
  | 19 => trivial
  | 20 => trivial
  | 21 => trivial
  | 22 => trivial
  | 23 => trivial
  | 24 => trivial
  | 25 => trivial
  | 26 => trivial
  | 27 => trivial
  | 28 => trivial
  | 29 => trivial
  | 30 => trivial
  | 31 => trivial
  | 32 => trivial
  | 33 => trivial
  | 34 => trivial
  | 35 => trivial
  | 36 => trivial
  | 37 => trivial
  | 38 => trivial
  | 39 => trivial
  | 40 => trivial
  | 41 => trivial
  | 42 => trivial
  | 43 => trivial
  | 44 => trivial
  | 45 => trivial
  | 46 => trivial
  | 47 => trivial
  | 48 => trivial
  | 49 => trivial
  | 50 => trivial
  | 51 => trivial
  | 52 => trivial
  | 53 => trivial
  | 54 => trivial
  | 55 => trivial
  | 56 => trivial
  | 57 => trivial
  | 58 => trivial
  | 59 => trivial
  | 60 => trivial
  | 61 => trivial
  | 62 => trivial
  | 63 => trivial
  | 64 => trivial
  | 65 => trivial
  | 66 => trivial
  | 67 => trivial
  | 68 => trivial
  | 69 => trivial
  | 70 => trivial
  | 71 => trivial
  | 72 => trivial
  | 73 => trivial
  | 74 => trivial
  | 75 => trivial
  | 76 => trivial
  | 77 => trivial
  | 78 => trivial
  | 79 => trivial
  | 80 => trivial
  | 81 => trivial
  | 82 => trivial
  | 83 => trivial
  | 84 => trivial
  | 85 => ⟨⟨(by decide), mw_169, (by decide)⟩, ⟨(by decide), mw_170, (by decide)⟩, trivial⟩
  | 86 => ⟨⟨(by decide), mw_169, (by decide)⟩, ⟨(by decide), mw_170, (by decide)⟩, trivial⟩
  | 87 => ⟨⟨(by decide), mw_169, (by decide)⟩, ⟨(by decide), mw_170, (by decide)⟩, trivial⟩
  | 88 => ⟨⟨(by decide), mw_169, (by decide)⟩, ⟨(by decide), mw_170, (by decide)⟩, trivial⟩
  | 89 => ⟨⟨(by decide), mw_367, (by decide)⟩, ⟨(by decide), mw_170, (by decide)⟩, trivial⟩
  | 90 => ⟨⟨(by decide), mw_169, (by decide)⟩, trivial⟩
  | 91 => ⟨⟨(by decide), mw_170, (by decide)⟩, trivial⟩
  | _ + 92 => trivial
section SE
variable {Qh : Handler → Pre} {E : CtlPost} {e : Env} {s0 : State} {f : JFrame} {a : Addr} {cell : Cell} {cls : String} {q h : Nat}
theorem m_row {x : ExceptionTableEntry} {t : List ExceptionTableEntry} {c : ClassId} {S : State} {d : Bool} {acts : List Action} (hx : covers x f.pc = true) (h0 : x.catchType ≠ 0) (hl : S.vm.ClassLinks e.platform f.method.cls x.catchType c) (hcell : S.heap[a]? = some cell) (hobj : ∀ k, cell.vm ≠ .statics k)
    (hk : ∃ k, S.vm.classes[cell.cls]? = some k) (hc : ∃ k, S.vm.classes[c]? = some k) :
    wp (findHandler.go f a (x :: t)) Qh E e d acts S ↔ if S.vm.assignable cell.cls c = true then Qh (.found x.handlerPc) d acts (S.setVm (S.vm.noted f.method.cls x.catchType (.cls c))) else wp (findHandler.go f a t) Qh E e d acts (S.setVm (S.vm.noted f.method.cls x.catchType (.cls c))) := by
  simp only [covers] at hx
  obtain ⟨ha, ht⟩ := (resolveClass_links e.toSetting hl).op (op := VmOp.resolveClass f.method.cls x.catchType) rfl
  have hal : S.vm.Alike (S.vm.noted f.method.cls x.catchType (.cls c)) := (Vm.Alike.refl S.vm).noted _ _ _
  obtain ⟨k1, hk1⟩ := hk
  obtain ⟨k2, hk2⟩ := hc
  obtain ⟨k1', hk1', -⟩ := hal.2.2 _ _ hk1
  obtain ⟨k2', hk2', -⟩ := hal.2.2 _ _ hk2
  have hsame : (S.vm.noted f.method.cls x.catchType (.cls c)).assignable cell.cls c = S.vm.assignable cell.cls c := hal.assignable ..
  cases hfit : S.vm.assignable cell.cls c <;> rw [hfit] at hsame <;>
    simp [findHandler.go, hx, h0, ha, ht, hcell, hobj, hk1', hk2', hsame, VmOp.dirties, VmOp.acts]
theorem m_rows (hpl : e.platform.magicAccessors = ({} : Platform).magicAccessors) (hown : s0.vm.findClass cls = some f.method.cls) (hw : ∀ w ∈ m_tall, w.before #[] s0 = true) (hap : m_apart s0) (hobj : ∀ k, cell.vm ≠ .statics k) (hq : q < 3) (hcl : s0.vm.findClass (m_exc q) = some cell.cls) :
    ∀ (es : List ExceptionTableEntry) (xs : List Nat), m_hok cls (es.map fun h => (h.startPc, h.endPc, h.handlerPc, h.catchType)) xs → m_hand (es.map fun h => (h.startPc, h.endPc, h.handlerPc, h.catchType)) xs f.pc q = some h →
      ∀ S : State, s0.WarmedH S.vm → S.heap[a]? = some cell → ∃ vm', s0.WarmedH vm' ∧ ∀ (Qh : Handler → Pre) (E : CtlPost) (d : Bool) (acts : List Action), wp (findHandler.go f a es) Qh E e d acts S ↔ Qh (.found h) d acts (S.setVm vm') := by
  intro es
  induction es with
  | nil => intro xs _ hh; cases xs <;> cases hh
  | cons x t ih =>
    intro xs hok hh S hW hcell
    cases xs with
    | nil => cases hh
    | cons y ys =>
      obtain ⟨⟨h0, hlw, hy⟩, hok'⟩ := hok
      simp only [List.map_cons, m_hand] at hh
      by_cases hcov : covers x f.pc = true
      · rw [if_pos hcov] at hh
        obtain ⟨cT, hcT, hlk⟩ := Cond.classLink_spec hown (hw _ hlw) e.platform hpl
        obtain ⟨dk, _, _, kt, hd, _, _, _, _, hkt, _, hopen⟩ := hlk.here
        obtain ⟨k9, hk9, -⟩ := Vm.findClass_spec hcl
        obtain ⟨k9', hk9', -⟩ := hW.alike.2.2 _ _ hk9
        obtain ⟨kt', hkt', -⟩ := hW.alike.2.2 _ _ hkt
        have hWn : s0.WarmedH (S.vm.noted f.method.cls x.catchType (.cls cT)) := hW.noted hd hopen (State.rightAt_cls hlk)
        have has : S.vm.assignable cell.cls cT = decide (q = y) := by
          rw [hW.alike.assignable]
          exact hap q y hq hy _ _ hcl hcT
        by_cases hyq : y = q
        · rw [if_pos hyq] at hh
          refine ⟨_, hWn, fun Qh E d acts => ?_⟩
          rw [m_row hcov h0 (hW.classLinks hlk) hcell hobj ⟨k9', hk9'⟩ ⟨kt', hkt'⟩, if_pos (by rw [has, decide_eq_true_eq]; exact hyq.symm)]
          cases hh
          exact Iff.rfl
        · rw [if_neg hyq] at hh
          obtain ⟨vm', hW', hgo⟩ := ih ys hok' hh (S.setVm (S.vm.noted f.method.cls x.catchType (.cls cT))) hWn hcell
          refine ⟨vm', hW', fun Qh E d acts => ?_⟩
          rw [m_row hcov h0 (hW.classLinks hlk) hcell hobj ⟨k9', hk9'⟩ ⟨kt', hkt'⟩, if_neg (by rw [has]; simp; exact fun z => hyq z.symm)]
          exact hgo Qh E d acts
      · rw [if_neg hcov] at hh
        obtain ⟨vm', hW', hgo⟩ := ih ys hok' hh S hW hcell
        refine ⟨vm', hW', fun Qh E d acts => ?_⟩
        rw [W.findHandler_go_skip (by simpa using hcov)]
        exact hgo Qh E d acts
end SE
section SF
variable {X : mX} {k k' F N C S F' N' C' S' : Nat} {pc : Nat} {ls : List (Nat × Value)} {st : List Value} {M : mM} {Q Qc : Outcome → mM → Prop}
variable {p : Program} {e : Env} {R : Room} {s : State} {m : MethodId} {args : Array Value} {below : List Frame} {meth : Method} {c : Code} {locs : List Loc} {cells slots : Nat} {T : State}
theorem m_step_found {U : State} {g : JFrame} {a : Addr} {r : List Frame} {h : Nat} {vm' : Vm} (hfind : ∀ (Qh : Handler → Pre) (E : CtlPost) (d : Bool) (acts : List Action), wp (findHandler g a) Qh E e d acts U ↔ Qh (.found h) d acts (U.setVm vm')) :
    (stepThrowing e U a (.java g :: r)).1 = (U.setVm vm').setFrames (.java { g with pc := h, stack := [.ref a] } :: r) := by
  simp only [stepThrowing, searchFrame, vmDo]
  generalize hr : Sem.go _ e false [] U = res
  obtain ⟨as, rfl, -⟩ := Sem.eq_ok_of hr (a := Handler.found h) (s' := U.setVm vm') (acts' := []) (by simp [hfind _ _ _ _])
  rfl
theorem m_caught (Y : Stand p X.l e R s m args below meth c T locs cells slots) {g : JFrame} (hg : g.method = m) {a : Addr} {cell : Cell} {q h : Nat} {cls : String} {xs : List Nat} (hcell : T.heap[a]? = some cell) (hvm : cell.vm = .none) (hq : q < 3) (hcl : s.vm.findClass (m_exc q) = some cell.cls) (hown : s.vm.findClass cls = some m.cls)
    (hw : ∀ w ∈ m_tall, w.before #[] s = true) (hap : m_apart s) (hok : m_hok cls (c.exceptionTable.toList.map fun h => (h.startPc, h.endPc, h.handlerPc, h.catchType)) xs) (hh : m_hand (c.exceptionTable.toList.map fun h => (h.startPc, h.endPc, h.handlerPc, h.catchType)) xs g.pc q = some h) :
    ∃ vm', Stand p X.l e R s m args below meth c (T.setVm vm') locs cells slots ∧ ∀ target, Steps p.tables e below ((T.setVm vm').setTop { g with pc := h, stack := [.ref a] }) target → Steps p.tables e below ((T.setTop g).pushFrame (.throwing a)) target := by
  subst hg
  have hpl : e.platform.magicAccessors = ({} : Platform).magicAccessors := by rw [Y.admits.platform]
  obtain ⟨vm', hW', hgo⟩ := m_rows (e := e) (f := g) (a := a) (h := h) hpl hown hw hap (cell := cell) (fun k z => by rw [hvm] at z; cases z) hq hcl c.exceptionTable.toList xs hok hh ((T.setTop g).pushFrame (.throwing a)) Y.warmed hcell
  refine ⟨vm', Y.noted hW', fun target hrest => ?_⟩
  obtain ⟨h1, h2⟩ := Y.here.throwing (g := g) a
  refine Steps.head h1 h2 ?_
  rw [stepThread_throwing (frames_entered Y.here.top _), m_step_found (U := (T.setTop g).pushFrame (.throwing a)) (h := h) (vm' := vm') (fun Qh E d acts => (W.findHandler_eq (s := (T.setTop g).pushFrame (.throwing a)) (meth := meth) (code := c) Y.method' Y.code).trans (hgo Qh E d acts))]
  obtain ⟨g0, hg0⟩ := Option.isSome_iff_exists.mp Y.here.top
  obtain ⟨r, hr⟩ := State.topJava?_eq_some.mp hg0
  have hr' : (T.setVm vm').frames = .java g0 :: r := hr
  rw [State.setTop_of_frames _ hr'] at hrest
  rw [State.pushFrame, State.setTop_of_frames _ hr]
  have e1 : ∀ (u : State) (A B : List Frame), ((u.setFrames A).setVm vm').setFrames B = (u.setVm vm').setFrames B := fun u A B => by
    have : (u.setFrames A).setVm vm' = (u.setVm vm').setFrames A := rfl
    rw [this, State.setFrames_setFrames]
  rw [State.setFrames_setFrames, e1, hr]
  exact hrest
/-- what was thrown by a callee, in this frame -/
theorem m_behind {q mc ms : Nat} {la : Array Slot} {stk : List Value} {ce : Cell} (hq : q < 3) (ht : m_thrown X k F N C S pc ls q M Q) (hC : m_C X k p s m meth c) (hF : F ≤ R.frames) (hN : N ≤ R.locals) (hc : cells + C ≤ mc) (hs : slots + S ≤ ms) (hmc : mc ≤ R.cells) (hms : ms ≤ R.slots) (hv : lv_has la (m_n k) (m_lv X ls)) (hl : ∀ q ∈ locs, X.B ≤ q.base)
    (Y : Stand p X.l e R s m args below meth c T locs cells slots) (hR : m_R X M T.heap) (hce : T.heap[X.B + (M.2.1 - 1)]? = some ce) (hcv : ce.vm = .none) (hcl : s.vm.findClass (m_exc q) = some ce.cls) :
    ∃ t, Steps p.tables e below ((T.setTop (F0 m pc la stk)).pushFrame (.throwing (X.B + (M.2.1 - 1)))) t ∧ m_Q X below s mc ms Q t := by
  rcases ht with ⟨hcov, hQ⟩ | ⟨h, hh, kk⟩
  · have hout : ∀ x ∈ c.exceptionTable.toList, covers x (F0 m pc la stk).pc = false := fun x hx => by
      have h1 : (x.startPc, x.endPc, x.handlerPc, x.catchType) ∈ m_h k := by
        rw [← hC.2.2.2.2.2.2.2.1]
        exact List.mem_map.mpr ⟨x, hx, rfl⟩
      have h2 := List.any_eq_false.mp hcov _ h1
      simpa [covers] using h2
    obtain ⟨st1, hrun, hend, hW, hsm⟩ := Y.leaveThrown (X.B + (M.2.1 - 1)) (g := F0 m pc la stk) rfl rfl rfl hout hC.2.2.2.2.2.1
    exact ⟨_, st1, .threw (X.B + (M.2.1 - 1)), .threw q, M, locs, hrun, hend, hW, hsm.mono (by omega) (by omega), hl, hQ, hR, ce, rfl, hce, hcv, hcl⟩
  · obtain ⟨vm', Y', hgo⟩ := m_caught Y (g := F0 m pc la stk) rfl (h := h) (xs := m_hx k) hce hcv hq hcl hC.2.2.2.2.1 (fun w hw => hC.2.2.2.2.2.2.2.2.w hw #[]) hC.2.2.2.2.2.2.2.2.2.2.2.2.2.2.2.2 (by rw [hC.2.2.2.2.2.2.2.1]; exact m_hall k) (by rw [hC.2.2.2.2.2.2.2.1]; exact hh)
    obtain ⟨t, h1, h2⟩ := kk p e R s m args below meth c T.heap locs cells slots mc ms la hC hF hN hc hs hmc hms hR hl hv (T.setVm vm') rfl Y'
    exact ⟨t, hgo t h1, h2⟩
end SF
section SG
variable {X : mX} {k k' F N C S F' N' C' S' : Nat} {pc : Nat} {ls : List (Nat × Value)} {st : List Value} {M : mM} {Q Qc : Outcome → mM → Prop}
/-- a method that is called as 'receiver.m(..)' -/
theorem Sp.callV {idx b0 a ci : Nat} {vs fs : List Value} (hi : m_i k pc = some (.invokevirtual idx, k', b0)) (hm : M.1 a = some (.inr (ci, fs))) (hci : m_cname ci = (m_y k').cls) (hlen : vs.length = m_ar k') (hnv : (lg_sl (.ref a :: vs)).length ≤ m_n k') (hw : (st.map fun v => v.category).sum ≤ 8)
    (hF1 : F' + 1 ≤ F) (hN1 : 8 + (m_n k' + 11) + N' ≤ N) (hC1 : C' ≤ C) (hS1 : S' ≤ S) (hsp : Sp X k' F' N' C' S' (0, lv_args 0 (.ref a :: vs), []) M Qc)
    (kr : ∀ v M', Qc (.returned v) M' → Sp X k F N (C - C') (S - S') (pc + 3, ls, v.toList ++ st) M' Q) (kt : ∀ q M', Qc (.threw q) M' → q < 3 ∧ m_thrown X k F N (C - C') (S - S') pc ls q M' Q) : Sp X k F N C S (pc, ls, vs.reverse ++ .ref a :: st) M Q := by
  intro p e R s m args below meth c H locs cells slots mc ms la hC hF hN hc hs hmc hms hR hl hv T hT Y
  have hC' := hC
  obtain ⟨hx, hb, hr, hn, hown, hlk, hnm, htb, hTs⟩ := hC
  obtain ⟨hd, -, hf, hlink, winst, wsel⟩ := m_ok hi
  have hd' : decode c.code pc = .ok (.invokevirtual idx, 3) := by rw [hb]; exact hd
  obtain ⟨mk, methM, hnamed, hmethM, hstM, habM⟩ := Cond.instanceMethod_spec (hTs.w winst args)
  obtain ⟨methM', cM, hmethM', -, -, -, -, -, -, hsigM⟩ := m_fact.spec hf hTs hnamed
  cases Option.some.inj (hmethM.symm.trans hmethM')
  obtain ⟨r, hr1, cellB, g1, g2, g3, -⟩ := (hR.2.1 a _ hm).2
  have hcls0 := (hTs.2.1.1 ci r hr1).2.1
  rw [← m_cname_ok hr1, hci, ← g2] at hcls0
  obtain ⟨c2, r2, m2, q1, q2, q3, q4, kP, hkP, hkPi⟩ := Cond.selects_spec (hTs.w wsel args)
  cases Option.some.inj (hcls0.symm.trans q1)
  cases Option.some.inj ((State.methodFound?_of_named hnamed hf.2.2.2.1).symm.trans q2)
  cases Option.some.inj (hnamed.symm.trans q3)
  have hselP : selectMethod e.platform s.vm cellB.cls mk = .method mk := by rw [Launch.admits_selectMethod Y.admits]; exact q4
  have hlenM : (vs.map (m_v X)).length = methM.sig.parameters.length := by
    have h9 := hf.2.2.2.2
    rw [hsigM] at h9
    rw [List.length_map, hlen]
    exact (Option.some.inj h9).symm
  have hstk : (F0 m pc la ((vs.reverse ++ Value.ref a :: st).map (m_v X))).stack = (vs.map (m_v X)).reverse ++ .ref (X.B + a) :: st.map (m_v X) := by
    show (vs.reverse ++ Value.ref a :: st).map (m_v X) = _
    rw [List.map_append, List.map_reverse]
    rfl
  have hinv : ∃ vm₁, Stand p X.l e R s m args below meth c (T.setVm vm₁) locs cells slots ∧ ∀ target, (∀ acts, Steps p.tables e below (doInvoke e ((T.setVm vm₁).setTop (F0 m pc la (st.map (m_v X)))) acts mk (Value.ref (X.B + a) :: vs.map (m_v X)).toArray).1 target) → Steps p.tables e below (T.setTop (F0 m pc la ((vs.reverse ++ Value.ref a :: st).map (m_v X)))) target := by
    rcases hlink with hlink | hlink
    · exact Y.invokevirtual hx hown (hTs.w hlink args) hnamed hmethM hstM hkP hkPi hf.2.2.2.1 (a := X.B + a) (cell := cellB) (by rw [hT]; exact g1) (fun z h => by rw [g3] at h; cases h) hselP hmethM habM hkP hkPi (g := F0 m pc la ((vs.reverse ++ Value.ref a :: st).map (m_v X))) rfl (argsL := vs.map (m_v X)) (rest := st.map (m_v X)) hlenM hstk hd'
    · exact Y.invokevirtualNest hx hown (hTs.w hlink args) hnamed hmethM hstM hkP hkPi hf.2.2.2.1 (a := X.B + a) (cell := cellB) (by rw [hT]; exact g1) (fun z h => by rw [g3] at h; cases h) hselP hmethM habM hkP hkPi (g := F0 m pc la ((vs.reverse ++ Value.ref a :: st).map (m_v X))) rfl (argsL := vs.map (m_v X)) (rest := st.map (m_v X)) hlenM hstk hd'
  obtain ⟨vm₁, Y1, hstep⟩ := hinv
  obtain ⟨t, h1, h2⟩ := m_into (vs := .ref a :: vs) hsp hf hx hTs Y1 (by show m_R X M T.heap; rw [hT]; exact hR) (g := F0 m pc la (st.map (m_v X))) rfl (by show la.size = _; rw [hn]; exact hv.1) hd' hnamed rfl (by show ((st.map (m_v X)).map _).sum ≤ 8; rw [m_sum]; exact hw) (by omega) (by omega) (by omega) (by omega) hnv (Qf := m_Q X below s mc ms Q)
    (fun v M' T' L hq Y' hR' hL => by
      have hl' : ∀ q ∈ locs ++ L, X.B ≤ q.base := fun q hq => (List.mem_append.mp hq).elim (hl q) (hL q)
      have K := kr v M' hq p e R s m args below meth c T'.heap (locs ++ L) (cells + C') (slots + S') mc ms la hC' hF hN (by omega) (by omega) hmc hms hR' hl' hv T' rfl Y'
      have e1 : (v.toList ++ st).map (m_v X) = (v.map (m_v X)).toList ++ st.map (m_v X) := by cases v <;> simp
      simp only [e1] at K
      exact K)
    (fun q M' T' L ce hq Y' hR' hL hce hcv hcl => m_behind (kt q M' hq).1 (kt q M' hq).2 hC' hF hN (by omega) (by omega) hmc hms hv (fun z hz => (List.mem_append.mp hz).elim (hl z) (hL z)) Y' hR' hce hcv hcl)
  exact ⟨t, hstep t (fun acts => by rw [doInvoke_state]; exact h1), h2⟩
/-- a static method -/
theorem Sp.callS {idx b0 : Nat} {vs : List Value} (hi : m_i k pc = some (.invokestatic idx, k', b0)) (hk : k' ≠ 1000) (hlen : vs.length = m_ar k') (hnv : (lg_sl vs).length ≤ m_n k') (hw : (st.map fun v => v.category).sum ≤ 8)
    (hF1 : F' + 1 ≤ F) (hN1 : 8 + (m_n k' + 11) + N' ≤ N) (hC1 : C' ≤ C) (hS1 : S' ≤ S) (hsp : Sp X k' F' N' C' S' (0, lv_args 0 vs, []) M Qc)
    (kr : ∀ v M', Qc (.returned v) M' → Sp X k F N (C - C') (S - S') (pc + 3, ls, v.toList ++ st) M' Q) (kt : ∀ q M', Qc (.threw q) M' → q < 3 ∧ m_thrown X k F N (C - C') (S - S') pc ls q M' Q) : Sp X k F N C S (pc, ls, vs.reverse ++ st) M Q := by
  intro p e R s m args below meth c H locs cells slots mc ms la hC hF hN hc hs hmc hms hR hl hv T hT Y
  have hC' := hC
  obtain ⟨hx, hb, hr, hn, hown, hlk, hnm, htb, hTs⟩ := hC
  obtain ⟨hd, -, h9⟩ := m_ok hi
  obtain ⟨hf, hlink, wst⟩ := h9.2 hk
  have hd' : decode c.code pc = .ok (.invokestatic idx, 3) := by rw [hb]; exact hd
  obtain ⟨mk, hnamed⟩ := m_fact.named hf hTs
  obtain ⟨methM, cM, hmethM, -, -, -, -, -, -, hsigM⟩ := m_fact.spec hf hTs hnamed
  have hstatic : methM.isStatic = true := Cond.static_spec hnamed hmethM (hTs.w wst args)
  obtain ⟨kP, hkP, -⟩ := className_of_methodNamed hnamed
  have hinitP : kP.init = .initialized := Cond.initialized_spec (findClass_of_methodNamed hnamed) hkP (hTs.w hf.2.1 args)
  have hlenM : (vs.map (m_v X)).length = methM.sig.parameters.length := by
    have h9 := hf.2.2.2.2
    rw [hsigM] at h9
    rw [List.length_map, hlen]
    exact (Option.some.inj h9).symm
  have hstk : (F0 m pc la ((vs.reverse ++ st).map (m_v X))).stack = (vs.map (m_v X)).reverse ++ st.map (m_v X) := by
    show (vs.reverse ++ st).map (m_v X) = _
    rw [List.map_append, List.map_reverse]
  have hinv : ∃ vm₁, Stand p X.l e R s m args below meth c (T.setVm vm₁) locs cells slots ∧ ∀ target, (∀ acts, Steps p.tables e below (doInvoke e ((T.setVm vm₁).setTop (F0 m pc la (st.map (m_v X)))) acts mk (vs.map (m_v X)).toArray).1 target) → Steps p.tables e below (T.setTop (F0 m pc la ((vs.reverse ++ st).map (m_v X)))) target := by
    rcases hlink with hlink | hlink
    · exact Y.invokestatic hx hown (hTs.w hlink args) hnamed hmethM hstatic hkP hinitP hf.2.2.2.1 (g := F0 m pc la ((vs.reverse ++ st).map (m_v X))) rfl (argsL := vs.map (m_v X)) (rest := st.map (m_v X)) hlenM hstk hd'
    · exact Y.invokestaticNest hx hown (hTs.w hlink args) hnamed hmethM hstatic hkP hinitP hf.2.2.2.1 (g := F0 m pc la ((vs.reverse ++ st).map (m_v X))) rfl (argsL := vs.map (m_v X)) (rest := st.map (m_v X)) hlenM hstk hd'
  obtain ⟨vm₁, Y1, hstep⟩ := hinv
  obtain ⟨t, h1, h2⟩ := m_into (vs := vs) hsp hf hx hTs Y1 (by show m_R X M T.heap; rw [hT]; exact hR) (g := F0 m pc la (st.map (m_v X))) rfl (by show la.size = _; rw [hn]; exact hv.1) hd' hnamed rfl (by show ((st.map (m_v X)).map _).sum ≤ 8; rw [m_sum]; exact hw) (by omega) (by omega) (by omega) (by omega) hnv (Qf := m_Q X below s mc ms Q)
    (fun v M' T' L hq Y' hR' hL => by
      have hl' : ∀ q ∈ locs ++ L, X.B ≤ q.base := fun q hq => (List.mem_append.mp hq).elim (hl q) (hL q)
      have K := kr v M' hq p e R s m args below meth c T'.heap (locs ++ L) (cells + C') (slots + S') mc ms la hC' hF hN (by omega) (by omega) hmc hms hR' hl' hv T' rfl Y'
      have e1 : (v.toList ++ st).map (m_v X) = (v.map (m_v X)).toList ++ st.map (m_v X) := by cases v <;> simp
      simp only [e1] at K
      exact K)
    (fun q M' T' L ce hq Y' hR' hL hce hcv hcl => m_behind (kt q M' hq).1 (kt q M' hq).2 hC' hF hN (by omega) (by omega) hmc hms hv (fun z hz => (List.mem_append.mp hz).elim (hl z) (hL z)) Y' hR' hce hcv hcl)
  exact ⟨t, hstep t (fun acts => by rw [doInvoke_state]; exact h1), h2⟩
/-- a constructor -/
theorem Sp.callI {idx b0 a : Nat} {vs : List Value} (hi : m_i k pc = some (.invokespecial idx, k', b0)) (hk : k' ≠ 1000) (hlen : vs.length = m_ar k') (hnv : (lg_sl (.ref a :: vs)).length ≤ m_n k') (hw : (st.map fun v => v.category).sum ≤ 8)
    (hF1 : F' + 1 ≤ F) (hN1 : 8 + (m_n k' + 11) + N' ≤ N) (hC1 : C' ≤ C) (hS1 : S' ≤ S) (hsp : Sp X k' F' N' C' S' (0, lv_args 0 (.ref a :: vs), []) M Qc)
    (kr : ∀ v M', Qc (.returned v) M' → Sp X k F N (C - C') (S - S') (pc + 3, ls, v.toList ++ st) M' Q) (kt : ∀ q M', Qc (.threw q) M' → q < 3 ∧ m_thrown X k F N (C - C') (S - S') pc ls q M' Q) : Sp X k F N C S (pc, ls, vs.reverse ++ .ref a :: st) M Q := by
  intro p e R s m args below meth c H locs cells slots mc ms la hC hF hN hc hs hmc hms hR hl hv T hT Y
  have hC' := hC
  obtain ⟨hx, hb, hr, hn, hown, hlk, hnm, htb, hTs⟩ := hC
  obtain ⟨hd, -, h9⟩ := m_ok hi
  obtain ⟨hf, hlink, winst, wcode, hini⟩ := h9.2 hk
  have hd' : decode c.code pc = .ok (.invokespecial idx, 3) := by rw [hb]; exact hd
  have hpl : e.platform.magicAccessors = ({} : Platform).magicAccessors := by rw [Y.admits.platform]
  have hstk : (F0 m pc la ((vs.reverse ++ Value.ref a :: st).map (m_v X))).stack = (vs.map (m_v X)).reverse ++ .ref (X.B + a) :: st.map (m_v X) := by
    show (vs.reverse ++ Value.ref a :: st).map (m_v X) = _
    rw [List.map_append, List.map_reverse]
    rfl
  have hlenM : ∀ sig, parseMethodDescriptor (m_y k').desc = some sig → (vs.map (m_v X)).length = sig.parameters.length := fun sig h => by
    have h9 := hf.2.2.2.2
    rw [h] at h9
    rw [List.length_map, hlen]
    exact (Option.some.inj h9).symm
  have hinv : ∃ vm₁ mk, s.methodNamed? (m_y k') = some mk ∧ Stand p X.l e R s m args below meth c (T.setVm vm₁) locs cells slots ∧ ∀ target, (∀ acts, Steps p.tables e below (doInvoke e ((T.setVm vm₁).setTop (F0 m pc la (st.map (m_v X)))) acts mk (Value.ref (X.B + a) :: vs.map (m_v X)).toArray).1 target) → Steps p.tables e below (T.setTop (F0 m pc la ((vs.reverse ++ Value.ref a :: st).map (m_v X)))) target := by
    rcases hlink with hlink | hlink
    · obtain ⟨mk, methM, cM, kP, vm₁, hnamed, -, -, -, -, -, -, -, hW₁, hstep₁⟩ := Steps.initColdArgs (e := e) Y.here hx Y.warmed hpl hown hini hf.2.2.2.1 (hTs.w hlink args) (hTs.w winst args) (hTs.w wcode args) (f := F0 m pc la ((vs.reverse ++ Value.ref a :: st).map (m_v X))) rfl (argsL := vs.map (m_v X)) (rest := st.map (m_v X)) hlenM hstk hd'
      exact ⟨vm₁, mk, hnamed, Y.noted hW₁, hstep₁⟩
    · obtain ⟨mk, methM, cM, kP, vm₁, hnamed, -, -, -, -, -, -, -, hW₁, hstep₁⟩ := Steps.initColdArgsNest (e := e) Y.here hx Y.warmed hpl hown hini hf.2.2.2.1 (hTs.w hlink args) (hTs.w winst args) (hTs.w wcode args) (f := F0 m pc la ((vs.reverse ++ Value.ref a :: st).map (m_v X))) rfl (argsL := vs.map (m_v X)) (rest := st.map (m_v X)) hlenM hstk hd'
      exact ⟨vm₁, mk, hnamed, Y.noted hW₁, hstep₁⟩
  obtain ⟨vm₁, mk, hnamed, Y1, hstep⟩ := hinv
  obtain ⟨t, h1, h2⟩ := m_into (vs := .ref a :: vs) hsp hf hx hTs Y1 (by show m_R X M T.heap; rw [hT]; exact hR) (g := F0 m pc la (st.map (m_v X))) rfl (by show la.size = _; rw [hn]; exact hv.1) hd' hnamed rfl (by show ((st.map (m_v X)).map _).sum ≤ 8; rw [m_sum]; exact hw) (by omega) (by omega) (by omega) (by omega) hnv (Qf := m_Q X below s mc ms Q)
    (fun v M' T' L hq Y' hR' hL => by
      have hl' : ∀ q ∈ locs ++ L, X.B ≤ q.base := fun q hq => (List.mem_append.mp hq).elim (hl q) (hL q)
      have K := kr v M' hq p e R s m args below meth c T'.heap (locs ++ L) (cells + C') (slots + S') mc ms la hC' hF hN (by omega) (by omega) hmc hms hR' hl' hv T' rfl Y'
      have e1 : (v.toList ++ st).map (m_v X) = (v.map (m_v X)).toList ++ st.map (m_v X) := by cases v <;> simp
      simp only [e1] at K
      exact K)
    (fun q M' T' L ce hq Y' hR' hL hce hcv hcl => m_behind (kt q M' hq).1 (kt q M' hq).2 hC' hF hN (by omega) (by omega) hmc hms hv (fun z hz => (List.mem_append.mp hz).elim (hl z) (hL z)) Y' hR' hce hcv hcl)
  exact ⟨t, hstep t (fun acts => by rw [doInvoke_state]; exact h1), h2⟩
end SG
end
section
/-! 'throw new E("text")': new, dup, ldc, <init>(String), athrow, in a method that catches nothing. -/
section ST
variable {X : mX} {k F N C S : Nat} {pc : Nat} {ls : List (Nat × Value)} {st : List Value} {M : mM} {Q : Outcome → mM → Prop}
variable {p : Program} {l : Launch} {e : Env} {R : Room} {s : State} {m : MethodId} {args : Array Value} {below : List Frame} {meth : Method} {c : Code} {locs : List Loc} {cells slots : Nat} {T : State}
/-- the state in which this invocation would begin, were it made at this heap -/
def m_re (s T : State) (m : MethodId) (args : Array Value) (below : List Frame) : State := (T.setVm s.vm).setFrames (.invoking m args :: below)
theorem m_anew (Y : Stand p l e R s m args below meth c T locs cells slots) {cs ss : Nat} (hc : cells + cs ≤ R.cells) (hs : slots + ss ≤ R.slots) : Stand p l e { frames := R.frames, locals := R.locals, cells := cs, slots := ss } (m_re s T m args below) m args below meth c T [] 0 0 := by
  obtain ⟨g0, hg0⟩ := Option.isSome_iff_exists.mp Y.here.top
  obtain ⟨r, hr⟩ := State.topJava?_eq_some.mp hg0
  have hcur : (T.setVm s.vm).cur < (T.setVm s.vm).threads.size := State.cur_lt_of_frames hr
  have hF : (m_re s T m args below).frames = .invoking m args :: below := State.frames_setFrames _ hcur
  obtain ⟨th, hth, -⟩ := State.frames_cons hF
  obtain ⟨th2, hth2, -⟩ := State.frames_cons (s := T.setVm s.vm) hr
  have hlim : e.platform.stackLimits (m_re s T m args below).me = e.platform.stackLimits s.me := by
    rw [m_re, State.stackLimits_setFrames]
    exact Y.limits
  have hbyt : (m_re s T m args below).me.stackBytes = s.me.stackBytes := by
    rw [m_re, State.stackBytes_setFrames]
    exact Y.bytes
  have hmeth : (m_re s T m args below).vm.method? m = some meth := Y.method
  refine ⟨Y.admits, Y.cas, Y.clock, hF, ?_, Y.hears, hmeth, Y.code, Y.here, Y.tail, Y.warmed, ?_, ?_, ?_⟩
  · have h := Y.room
    have hU : (m_re s T m args below).localsInUse = s.localsInUse := by
      rw [State.localsInUse_invoking hF hmeth Y.code, State.localsInUse_invoking Y.frames Y.method Y.code]
    have q1 := Y.heapSize
    have q2 := Y.used
    have q3 : (m_re s T m args below).slotsTrue = true := Y.book
    have q4 : (m_re s T m args below).frames.length = s.frames.length := by rw [hF, Y.frames]
    have q5 : (m_re s T m args below).heap.size = T.heap.size := rfl
    have q6 : (m_re s T m args below).slotsUsed = T.slotsUsed := rfl
    simp only [State.hasRoom, Bool.and_eq_true, decide_eq_true_eq] at h ⊢
    rw [hU, hlim, hbyt, q4, q5, q6]
    obtain ⟨⟨⟨⟨a1, a2⟩, a3⟩, a4⟩, -⟩ := h
    exact ⟨⟨⟨⟨a1, a2⟩, by omega⟩, by omega⟩, q3⟩
  · exact Y.limits.trans hlim.symm
  · exact Y.bytes.trans hbyt.symm
  · have h1 := (State.sameButNew.refl (m_re s T m args below) hth).setFrames (T.setVm s.vm).frames (State.cur_lt_of_frames hF)
    have h2 : (m_re s T m args below).setFrames (T.setVm s.vm).frames = T.setVm s.vm := by
      rw [m_re, State.setFrames_setFrames, State.setFrames_self hth2]
    rw [h2] at h1
    exact h1
/-- of a frame's condition with nothing written: every old cell is as it was -/
theorem m_kept {U V : State} {cs ss : Nat} (h : U.sameButNew ({ V with vm := U.vm } : State) [] cs ss) : U.heap.size ≤ V.heap.size ∧ ∀ q : Nat, q < U.heap.size → V.heap[q]? = U.heap[q]? := by
  obtain ⟨-, h2, -, -, -, h6⟩ := h
  refine ⟨h2, fun q hq => ?_⟩
  obtain ⟨c9, e1, e2, e3, e4⟩ := h6 q _ (Array.getElem?_eq_getElem hq)
  have hs : c9.slots = (U.heap[q]).slots := Array.ext_getElem? fun i => e4 i (fun hm => nomatch hm)
  have h9 : c9 = U.heap[q] := by
    rw [hs] at e2
    exact e2
  have e5 : V.heap[q]? = some c9 := e1
  rw [e5, h9, Array.getElem?_eq_getElem hq]
/-- what a static field of a class holds, its cell below the first new one -/
theorem m_stat {C n d : String} (h : m_L X C n d s) {U : State} (hvm : s.vm.Alike U.vm) (hh : ∀ q, q < X.B → U.heap[q]? = X.H0[q]?) (hB : X.H0.size = X.B) : (Cond.laysStatic C n d).before args U = true ∧ (Cond.isRef (.static C n d)).before args U = true := by
  obtain ⟨c, k, i, f, a, cell, v, h1, h2, h3, h4, h5, h6, h7, h8, h9, h10, h11⟩ := h
  obtain ⟨k', hi', he⟩ := State.fieldFound?_setVm hvm h2
  have hlt : a < X.B := by rw [← hB]; exact (Array.getElem?_eq_some_iff.mp h5).1
  have hcell : U.heap[a]? = some cell := by rw [hh a hlt]; exact h5
  have hst : k'.statics = some a := by rw [he]; exact h4
  refine ⟨?_, ?_⟩
  · show (Cond.laysStatic C n d).holds args U none U [] = true
    exact Cond.laysStatic_of (by rw [hvm.findClass]; exact h1) hi' h3 hst hcell h6 h7 h8 (by rw [he]; exact h9)
  · have hi2 : U.fieldFound? C n d = some (c, k', i, f) := hi'
    have hev : (Term.static C n d).eval args U none [] U = some v := by
      simp [Term.eval, State.fieldNamed?, hi2, h3, hst, hcell, h6, h10]
    have hv : v = .null ∨ ∃ x, v = .ref x := by
      cases v with
      | null => exact Or.inl rfl
      | ref x => exact Or.inr ⟨x, rfl⟩
      | _ => cases h11
    show (Cond.isRef (.static C n d)).holds args U none U [] = true
    simp only [Cond.holds, Cond.value, hev]
    rcases hv with rfl | ⟨x, rfl⟩ <;> rfl
set_option maxHeartbeats 4000000 in
/-- from the constructor's call to the throw's end: as the library's Stand.ctorThrowS, for a constructor whose own entry for RuntimeException's is any one -/
theorem m_ctor (Y : Stand p l e R s m args below meth c T [] cells slots) (hexec : p.tables.exec = Jvm.exec) (htr : e.platform.stackTraces = false) {own E : String} {ic ix : Nat} {bs : ByteArray} (hown : s.vm.findClass own = some m.cls) (hE : Bundle.fit E = true)
    (d0 : decode bs 0 = .ok (.aload_n 0, 1)) (d1 : decode bs 1 = .ok (.aload_n 1, 1)) (d2 : decode bs 2 = .ok (.invokespecial ix, 3)) (d5 : decode bs 5 = .ok (.return_, 1))
    (h : ∀ w ∈ m_ownL own ic E ix bs, w.before args s = true) {a : Addr} {cX : ClassId} {kX : Class} (hfX : s.vm.findClass E = some cX) (hkX : s.vm.classes[cX]? = some kX) (hcell : T.heap[a]? = some (freshCell cX kX)) (hnew : s.heap.size ≤ a) {msg : Value} (hmsg : msg.isRef = true)
    {g : JFrame} (hg : g.method = m) (hsize : g.locals.size = c.maxLocals) (hlocked : g.locked = none) (hentered : g.entered = []) {rest : List Value} (hstack : g.stack = msg :: .ref a :: .ref a :: rest)
    (hd6 : decode c.code g.pc = .ok (.invokespecial ic, 3)) (hd9 : decode c.code (g.pc + 3) = .ok (.athrow, 1)) (hout : ∀ x ∈ c.exceptionTable.toList, covers x (g.pc + 3) = false)
    (hRf : 5 < R.frames) (hRl : 2 * g.monitorRoom + ((Value.ref a :: rest).map fun v => v.category).sum + 81 ≤ R.locals) (hlocks : meth.locks = false) :
    ∃ U : State, Steps p.tables e below (T.setTop g) U ∧ U.status = .running ∧ Ended U below (.threw a) ∧ s.WarmedH U.vm ∧ s.sameButNew ({ U with vm := s.vm } : State) [] cells slots ∧ ∃ ce, U.heap[a]? = some ce ∧ ce.vm = .none ∧ s.vm.findClass E = some ce.cls := by
  have howns : e.platform.frameOwnsMonitors = true := by rw [Y.admits.platform]
  have hfin : e.platform.finalization = false := by rw [Y.admits.platform]
  have hpl : e.platform.magicAccessors = ({} : Platform).magicAccessors := by rw [Y.admits.platform]
  have a' : ∀ x, x ∈ m_ownL own ic E ix bs → x.holds args s none s [] = true := fun x hx => h x hx
  obtain ⟨T0, Z0, L, -, K⟩ := ThrowableC.of_atoms (args := args) howns hfin hpl (fun x hx => h x (by simp [m_ownL, hx]))
  obtain ⟨Z, M, LZ, LM, hnZ⟩ := Init0T.ofS_atoms (args := args) hpl L K (fun x hx => h x (by simp [m_ownL, hx]))
  obtain ⟨P1, L1, hP1m, hP1s⟩ := PassC.ofS_atoms (args := args) (s := s) hpl (X := E) (Y := "java/lang/RuntimeException") (index := ix) (bytes := bs) (Bundle.fit_spec hE).1 (by decide) d0 d1 d2 d5 (fun x hx => h x (by simp [m_ownL, hx]))
  obtain ⟨P2, Ps, hlen, L2, hL, hP2m, hlink1, hlink⟩ := Bundle.chainS (args := args) hpl hnZ ["java/lang/Exception"] "java/lang/RuntimeException" (by decide) (by decide) (fun x hx => h x (by simp [m_ownL, hx]))
  have hsup : P1.sup = P2.m := Option.some.inj (hP1s.symm.trans hP2m)
  have hfound : s.vm.findClass E = some P1.m.cls := findClass_of_methodNamed hP1m
  cases Option.some.inj (hfX.symm.trans hfound)
  obtain ⟨c1, kX', hc1, hk, hord, -, -, hn6⟩ := Cond.instantiable_spec (a' (.instantiable E 6) (by simp [m_ownL]))
  cases Option.some.inj (hc1.symm.trans hfound)
  cases Option.some.inj (hkX.symm.trans hk)
  have hsel0 : selectMethod e.platform s.vm P1.m.cls T0.fill0 = .method T0.fill0 := by
    obtain ⟨c2, r2, m2, q1, q2, q3, q4, -⟩ := Cond.selects_spec (a' (.selects E Bundle.tFill0 Bundle.tFill0) (by simp [m_ownL]))
    cases Option.some.inj (q1.symm.trans hfound)
    cases Option.some.inj (q2.symm.trans (State.methodFound?_of_named K.fill0 (by decide)))
    cases Option.some.inj (q3.symm.trans K.fill0)
    rw [Launch.admits_selectMethod Y.admits]; exact q4
  have hselF : selectMethod e.platform s.vm P1.m.cls T0.fill = .method T0.fill := by
    obtain ⟨c2, r2, m2, q1, q2, q3, q4, -⟩ := Cond.selects_spec (a' (.selects E Bundle.tFill Bundle.tFill) (by simp [m_ownL]))
    cases Option.some.inj (q1.symm.trans hfound)
    cases Option.some.inj (q2.symm.trans (State.methodFound?_of_named K.fill (by decide)))
    cases Option.some.inj (q3.symm.trans K.fill)
    rw [Launch.admits_selectMethod Y.admits]; exact q4
  obtain ⟨cS0, hcS0, hiss⟩ := K.statics
  obtain ⟨u0, hu0⟩ := Cond.staticRefV K.unassigned L.unassignedStatic L.statics hcS0 hiss (a' (.isRef (.static Bundle.tN "UNASSIGNED_STACK" Bundle.steD)) (by simp [m_ownL]))
  obtain ⟨sen, hsen⟩ := Cond.staticRefV K.sentinel L.sentinelStatic L.statics hcS0 hiss (a' (.isRef (.static Bundle.tN "SUPPRESSED_SENTINEL" Bundle.listD)) (by simp [m_ownL]))
  obtain ⟨ci198, i198, fB, hk198, hg198, ha198, hsB, -, hnB, htB, hffB⟩ := Cond.ownField (t := .object "java/lang/Object") K.found L.cls (by decide +kernel) (a' (.fieldLink Bundle.tN 198 Bundle.tN "backtrace" "Ljava/lang/Object;") (by simp [m_ownL])) (a' (.lays Bundle.tN Bundle.tN "backtrace" "Ljava/lang/Object;") (by simp [m_ownL])) e.platform hpl
  obtain ⟨cS, hcS', heS, -, hkeep⟩ := Y.same.2.2.2.2.2 T0.aS cS0 hcS0
  have hcellS : T.heap[T0.aS]? = some cS := hcS'
  have hknownS : cS.vm ≠ .unknown := by
    rw [heS]; intro hu
    rw [show cS0.vm = .unknown from hu] at hiss
    cases hiss
  have hneS : T0.aS ≠ a := Nat.ne_of_lt (Nat.lt_of_lt_of_le (Array.getElem?_eq_some_iff.mp hcS0).1 hnew)
  obtain ⟨iM, hffM⟩ := K.msg
  obtain ⟨tyC, dC, hdC, hdnC⟩ := Cond.laysAt hfound hk K.cause (a' (.lays E Bundle.tN "cause" "Ljava/lang/Throwable;") (by simp [m_ownL]))
  obtain ⟨tyS, dS, hdS, hdnS⟩ := Cond.laysAt hfound hk K.stack (a' (.lays E Bundle.tN "stackTrace" Bundle.steD) (by simp [m_ownL]))
  obtain ⟨tyP, dP, hdP, hdnP⟩ := Cond.laysAt hfound hk K.supp (a' (.lays E Bundle.tN "suppressedExceptions" Bundle.listD) (by simp [m_ownL]))
  obtain ⟨tyM, -⟩ := Cond.laysAt hfound hk hffM (a' (.lays E Bundle.tN "detailMessage" "Ljava/lang/String;") (by simp [m_ownL]))
  obtain ⟨tyB, dB, hdB, hdnB⟩ := Cond.laysAt hfound hk hffB (a' (.lays E Bundle.tN "backtrace" "Ljava/lang/Object;") (by simp [m_ownL]))
  have bC := Cond.laysApart hdB hdC hdnB hdnC (by rw [hnB, K.causeName]; decide)
  have bS := Cond.laysApart hdB hdS hdnB hdnS (by rw [hnB, K.stackName]; decide)
  have bP := Cond.laysApart hdB hdP hdnB hdnP (by rw [hnB, K.suppName]; decide)
  have hskip : SkipFacts T0 e.platform s (fun u => u) u0 ((preparedCellV T0.toThrowableT (freshCell P1.m.cls kX) a u0 sen).withEntry T.cur) :=
    ⟨{ ci198 := ci198, i198 := i198, fBack := fB }, ⟨hk198, hg198, ha198, hsB⟩, by
      have := fresh_default (c := P1.m.cls) tyB
      rw [htB] at this
      simpa [preparedCellV, Cell.setSlot, Cell.withEntry, Array.getElem?_setIfInBounds, bC, bS, bP, bC.symm, bS.symm, bP.symm, defaultValue] using this, fun _ _ => rfl⟩
  obtain ⟨tm, methC, cdC, kC, vm1, hnC, -, -, -, -, -, -, -, hW1, st1⟩ := Steps.initColdS (tb := p.tables) (e := e) (below := below) (s := s) (U := T) Y.here hexec Y.warmed hpl hown (t := Bundle.initS E) rfl rfl (Bundle.fit_spec hE).2
    (a' (.methodLink own ic (Bundle.initS E)) (by simp [m_ownL])) (h (.instanceMethod (Bundle.initS E)) (by simp [m_ownL, Bundle.passSAtoms])) (bytes := bs) (maxL := 2) (h (.code (Bundle.initS E) bs 2 none) (by simp [m_ownL, Bundle.passSAtoms]))
    (f := g) hg (a := a) (msg := msg) (rest := .ref a :: rest) hstack hd6
  cases Option.some.inj (hnC.symm.trans hP1m)
  have Y1 := Y.noted hW1
  obtain ⟨vm2, Y2, st2⟩ := Y1.ctorMessageOffV hexec (g := { g with stack := .ref a :: rest }) hg hsize T0 L Z LZ M LM (P1 :: P2 :: Ps)
    (fun P hP => by
      rcases List.mem_cons.mp hP with rfl | hP
      · exact L1
      · rcases List.mem_cons.mp hP with rfl | hP
        · exact L2
        · exact hL P hP) ⟨hsup, hlink1, hlink⟩ (u0 := u0) (sen := sen) (self := a) hmsg (cell := freshCell P1.m.cls kX) (cellS := cS)
    hcell (fun _ => by simp) (by simp) rfl rfl hsel0 hselF hcellS hneS hknownS (by rw [hkeep _ (fun z => nomatch z)]; exact hu0) (by rw [hkeep _ (fun z => nomatch z)]; exact hsen)
    (Takes.of_laid hk hord tyC (by rw [K.causeType]; rfl)) (Takes.of_laid hk hord tyS (by rw [K.stackType]; exact fits_refV_array _ u0)) (Takes.of_laid hk hord tyP (by rw [K.suppType]; exact fits_refV_object _ sen))
    (Takes.of_laid hk hord tyM (by rw [K.msgType]; exact fits_refV_object _ ⟨msg, hmsg⟩)) K.objLocals hskip htr [] hd6
    (by have hlen1 : Ps.length = 1 := hlen
        simp only [List.length_cons, hlen1]; omega) (by have hlen1 : Ps.length = 1 := hlen
                                                        simp only [List.length_cons, hlen1]; exact hRl)
  obtain ⟨hwalk, hrun, hended, hWU, hsame⟩ := Y2.athrowLeaves hexec (g := { g with stack := .ref a :: rest, pc := g.pc + 3 }) hg hlocked hentered hout (a := a) (rest := rest) rfl hd9 hlocks
  have hlt : a < ((T.setVm vm1).setVm vm2).heap.size := (Array.getElem?_eq_some_iff.mp hcell).1
  have hU := heapAt_setCell_self (s := (T.setVm vm1).setVm vm2) (plainBareV T0.toThrowableT (freshCell P1.m.cls kX) a u0 sen msg) hlt
  refine ⟨_, st1 _ (fun acts => ?_), hrun, hended, hWU, hsame.weaken (fun y hy hlt' => ?_) (Nat.le_refl _) (Nat.le_refl _), _, hU, rfl, hfound⟩
  · rw [doInvoke_state]
    exact st2 _ hwalk
  · exfalso
    have hb : y.base = a := by
      simp only [List.nil_append, List.mem_cons, List.not_mem_nil, or_false] at hy
      rcases hy with rfl | rfl | rfl | rfl | rfl <;> rfl
    rw [hb] at hlt'
    exact Nat.not_lt.mpr hnew hlt'
theorem m_six_dec (q : Nat) : decode (m_six q).2 0 = .ok (.aload_n 0, 1) ∧ decode (m_six q).2 1 = .ok (.aload_n 1, 1) ∧ decode (m_six q).2 2 = .ok (.invokespecial (m_six q).1, 3) ∧ decode (m_six q).2 5 = .ok (.return_, 1) := by
  match q with
  | 0 => decide +kernel
  | 1 => decide +kernel
  | _ + 2 => exact ⟨(by decide +kernel : decode (m_six 2).2 0 = .ok (.aload_n 0, 1)), (by decide +kernel : decode (m_six 2).2 1 = .ok (.aload_n 1, 1)), (by decide +kernel : decode (m_six 2).2 2 = .ok (.invokespecial (m_six 2).1, 3)), (by decide +kernel : decode (m_six 2).2 5 = .ok (.return_, 1))⟩
theorem m_exc_fit (q : Nat) : Bundle.fit (m_exc q) = true := by
  match q with
  | 0 => decide +kernel
  | 1 => decide +kernel
  | _ + 2 => exact (by decide +kernel : Bundle.fit (m_exc 2) = true)
set_option maxHeartbeats 4000000 in
theorem Sp.throw {ik q : Nat} (hi : m_i k pc = some (.new ik, q, 1)) (hF1 : 6 ≤ F) (hN1 : (st.map fun v => v.category).sum + 82 ≤ N) (hC1 : 1 ≤ C) (hS1 : 6 ≤ S) (hh : m_h k = []) (hQ : Q (.threw q) (m_new M none 6)) : Sp X k F N C S (pc, ls, st) M Q := by
  intro p e R s m args below meth c H locs cells slots mc ms la hC hF hN hc hs hmc hms hR hl hv T hT Y
  have hC' := hC
  obtain ⟨hx, hb, hr, hn, hown, hlk, hnm, htb, hTs⟩ := hC
  obtain ⟨hd, -, -, hthr⟩ := m_ok hi
  obtain ⟨is, ic, text, d3, d4, d6, d9, hq3, wcl, wini, wstr, watoms⟩ := hthr rfl
  have htr : e.platform.stackTraces = false := (show e.platform.stackTraces = X.l.stackTraces by rw [Y.admits.platform]).trans hTs.2.2.2.2.2.1
  have Z := m_anew Y (cs := 1) (ss := 6) (by omega) (by omega)
  have hvm : (m_re s T m args below).vm = s.vm := rfl
  have hheap : (m_re s T m args below).heap = H := hT
  have hW0 : s.WarmedH (m_re s T m args below).vm := State.WarmedH.refl s
  have hTr : m_T X (m_re s T m args below) := hTs.moved hW0
  have hat : ∀ w ∈ m_ownL (m_y k).cls ic (m_exc q) (m_six q).1 (m_six q).2, w.before args (m_re s T m args below) = true := by
    intro w hw
    have hst1 := m_stat (args := args) hTs.2.2.2.2.2.2.1 hW0.alike (fun q hq => by rw [hheap]; exact hR.2.2 q hq) hTs.2.2.2.2.1
    have hst2 := m_stat (args := args) hTs.2.2.2.2.2.2.2.1 hW0.alike (fun q hq => by rw [hheap]; exact hR.2.2 q hq) hTs.2.2.2.2.1
    rcases watoms w hw with h | rfl | rfl | rfl | rfl
    · exact hTr.w h args
    · exact hst1.1
    · exact hst1.2
    · exact hst2.1
    · exact hst2.2
  have hownr : (m_re s T m args below).vm.findClass (m_y k).cls = some m.cls := hown
  have hins : (Cond.instantiable (m_exc q) 6).before args (m_re s T m args below) = true := hat _ (by simp [m_ownL])
  obtain ⟨vm1, cX, kX, hfX, hkX, -, -, Z1, st1⟩ := Z.newCold hx (own := (m_y k).cls) (C := m_exc q) (index := ik) (n := 6) hownr (hTr.w wcl args) hins (hTr.w wini args) (g := F0 m pc la (st.map (m_v X))) rfl (by rw [hb]; exact hd) (by show 0 + 1 ≤ 1; omega) (by show 0 + 6 ≤ 6; omega)
  generalize hT1 : (T.setVm vm1).pushCell { cls := cX, slots := kX.instanceTypes.map defaultValue, vm := .none } = T1 at Z1 st1
  have hcellA : T1.heap[T.heap.size]? = some (freshCell cX kX) := by rw [← hT1]; exact State.heap_pushCell_size _ _
  have d3' : decode c.code (pc + 3) = .ok (.dup, 1) := by rw [hb]; exact d3
  have d4' : decode c.code (pc + 4) = .ok (.ldc is, 2) := by rw [hb]; exact d4
  obtain ⟨_, _, _, sa, -, -, -, -, -, hev⟩ := Cond.stringRef_spec (args := args) (first := m_re s T m args below) (o := none) (idx := []) hownr (hTr.w wstr args)
  have hout : ∀ x ∈ c.exceptionTable.toList, covers x (pc + 9) = false := fun x hx9 => by
    rw [hh] at htb
    rw [List.map_eq_nil_iff.mp htb] at hx9
    cases hx9
  obtain ⟨b0, b1, b2, b5⟩ := m_six_dec q
  obtain ⟨U, hsteps, hrun, hend, hW, hsame, ce, hce, hcv, hcls⟩ := m_ctor Z1 hx htr (own := (m_y k).cls) (E := m_exc q) (ic := ic) (ix := (m_six q).1) (bs := (m_six q).2) hownr (m_exc_fit q) b0 b1 b2 b5 hat hfX hkX hcellA (by rw [hheap, hT]; exact Nat.le_refl _) (msg := .ref sa) rfl
    (g := { method := m, pc := pc + 6, locals := la, stack := .ref sa :: .ref T.heap.size :: .ref T.heap.size :: st.map (m_v X), locked := none }) rfl (by show la.size = _; rw [hn]; exact hv.1) rfl rfl (rest := st.map (m_v X)) rfl
    (by rw [hb]; exact d6) (by rw [hb]; exact d9) hout (by show 5 < R.frames; omega) (by
      have h1 := m_sum (X := X) st
      simp only [List.map_cons, List.sum_cons, Value.category]
      show 2 * 0 + (1 + ((st.map (m_v X)).map fun v => v.category).sum) + 81 ≤ R.locals
      rw [h1]; omega) hlk
  obtain ⟨f1, f2⟩ := m_kept hsame
  rw [hheap] at f1 f2
  have hWs : s.WarmedH U.vm := State.WarmedH.trans hW0 hW
  have hsz : H.size = X.B + M.2.1 := hR.1
  have hUsz : U.heap.size = H.size + 1 := by
    have h1 := hsame.2.2.1
    rw [show ({ U with vm := (m_re s T m args below).vm } : State).heap.size = U.heap.size from rfl, hheap] at h1
    have h2 := (Array.getElem?_eq_some_iff.mp hce).1
    rw [hT] at h2
    omega
  have hRn : m_R X (m_new M none 6) U.heap := hR.new hUsz f2 (fun y hy => nomatch hy)
  have hall : s.sameButNew ({ U with vm := s.vm } : State) locs mc ms := by
    obtain ⟨e1, e2⟩ := hsame
    rw [m_re, State.setFrames_setFrames] at e1
    have h2 : (T.setVm s.vm).sameButNew ({ U with vm := s.vm } : State) [] (0 + 1) (0 + 6) := ⟨e1, e2⟩
    have h3 := Y.same.trans h2
    rw [List.append_nil] at h3
    exact h3.mono (by omega) (by omega)
  have hend' : T.heap.size = X.B + ((m_new M none 6).2.1 - 1) := by rw [hT, hsz]; rfl
  refine ⟨U, ?_, .threw T.heap.size, .threw q, m_new M none 6, locs, hrun, hend, hWs, hall, hl, hQ, hRn, ce, by rw [hend'], by rw [← hend']; exact hce, hcv, hcls⟩
  refine st1 _ ?_
  show Steps p.tables e below (T1.setTop { method := m, pc := pc + 3, locals := la, stack := .ref T.heap.size :: st.map (m_v X), locked := none }) _
  jvm_step Z1.here [Z1.here.top, hx, d3', Value.category]
  exact Z1.ldcString hx (own := (m_y k).cls) (text := text) (index := is) (a := sa) hownr (hTr.w wstr args) hev
    (g := { method := m, pc := pc + 4, locals := la, stack := .ref T.heap.size :: .ref T.heap.size :: st.map (m_v X), locked := none }) rfl d4' _ hsteps
end ST
end
section
/-! Calls whose end is known. -/
section SH
variable {X : mX} {k k' F N C S F' N' C' S' : Nat} {pc : Nat} {ls : List (Nat × Value)} {st : List Value} {M M1 : mM} {Q : Outcome → mM → Prop}
theorem Sp.vr (r : Option Value) (M1 : mM) {idx b0 a ci : Nat} {vs fs : List Value} (hi : m_i k pc = some (.invokevirtual idx, k', b0)) (hm : M.1 a = some (.inr (ci, fs))) (hci : m_cname ci = (m_y k').cls) (hlen : vs.length = m_ar k') (hnv : (lg_sl (.ref a :: vs)).length ≤ m_n k') (hw : (st.map fun v => v.category).sum ≤ 8)
    (hF1 : F' + 1 ≤ F) (hN1 : 8 + (m_n k' + 11) + N' ≤ N) (hC1 : C' ≤ C) (hS1 : S' ≤ S) (hsp : ∀ Q', Q' (.returned r) M1 → Sp X k' F' N' C' S' (0, lv_args 0 (.ref a :: vs), []) M Q') (kk : Sp X k F N (C - C') (S - S') (pc + 3, ls, r.toList ++ st) M1 Q) : Sp X k F N C S (pc, ls, vs.reverse ++ .ref a :: st) M Q :=
  Sp.callV hi hm hci hlen hnv hw hF1 hN1 hC1 hS1 (hsp (fun o M' => o = .returned r ∧ M' = M1) ⟨rfl, rfl⟩) (fun v M' h => by obtain ⟨h1, rfl⟩ := h; cases h1; exact kk) (fun q M' h => by cases h.1)
theorem Sp.vt (q : Nat) (M1 : mM) {idx b0 a ci : Nat} {vs fs : List Value} (hi : m_i k pc = some (.invokevirtual idx, k', b0)) (hm : M.1 a = some (.inr (ci, fs))) (hci : m_cname ci = (m_y k').cls) (hlen : vs.length = m_ar k') (hnv : (lg_sl (.ref a :: vs)).length ≤ m_n k') (hw : (st.map fun v => v.category).sum ≤ 8)
    (hF1 : F' + 1 ≤ F) (hN1 : 8 + (m_n k' + 11) + N' ≤ N) (hC1 : C' ≤ C) (hS1 : S' ≤ S) (hq : q < 3) (hsp : ∀ Q', Q' (.threw q) M1 → Sp X k' F' N' C' S' (0, lv_args 0 (.ref a :: vs), []) M Q') (kk : m_thrown X k F N (C - C') (S - S') pc ls q M1 Q) : Sp X k F N C S (pc, ls, vs.reverse ++ .ref a :: st) M Q :=
  Sp.callV hi hm hci hlen hnv hw hF1 hN1 hC1 hS1 (hsp (fun o M' => o = .threw q ∧ M' = M1) ⟨rfl, rfl⟩) (fun v M' h => by cases h.1) (fun q' M' h => by obtain ⟨h1, rfl⟩ := h; cases h1; exact ⟨hq, kk⟩)
theorem Sp.sr (r : Option Value) (M1 : mM) {idx b0 : Nat} {vs : List Value} (hi : m_i k pc = some (.invokestatic idx, k', b0)) (hk : k' ≠ 1000) (hlen : vs.length = m_ar k') (hnv : (lg_sl vs).length ≤ m_n k') (hw : (st.map fun v => v.category).sum ≤ 8)
    (hF1 : F' + 1 ≤ F) (hN1 : 8 + (m_n k' + 11) + N' ≤ N) (hC1 : C' ≤ C) (hS1 : S' ≤ S) (hsp : ∀ Q', Q' (.returned r) M1 → Sp X k' F' N' C' S' (0, lv_args 0 vs, []) M Q') (kk : Sp X k F N (C - C') (S - S') (pc + 3, ls, r.toList ++ st) M1 Q) : Sp X k F N C S (pc, ls, vs.reverse ++ st) M Q :=
  Sp.callS hi hk hlen hnv hw hF1 hN1 hC1 hS1 (hsp (fun o M' => o = .returned r ∧ M' = M1) ⟨rfl, rfl⟩) (fun v M' h => by obtain ⟨h1, rfl⟩ := h; cases h1; exact kk) (fun q M' h => by cases h.1)
theorem Sp.ir (M1 : mM) {idx b0 a : Nat} {vs : List Value} (hi : m_i k pc = some (.invokespecial idx, k', b0)) (hk : k' ≠ 1000) (hlen : vs.length = m_ar k') (hnv : (lg_sl (.ref a :: vs)).length ≤ m_n k') (hw : (st.map fun v => v.category).sum ≤ 8)
    (hF1 : F' + 1 ≤ F) (hN1 : 8 + (m_n k' + 11) + N' ≤ N) (hC1 : C' ≤ C) (hS1 : S' ≤ S) (hsp : ∀ Q', Q' (.returned none) M1 → Sp X k' F' N' C' S' (0, lv_args 0 (.ref a :: vs), []) M Q') (kk : Sp X k F N (C - C') (S - S') (pc + 3, ls, st) M1 Q) : Sp X k F N C S (pc, ls, vs.reverse ++ .ref a :: st) M Q :=
  Sp.callI hi hk hlen hnv hw hF1 hN1 hC1 hS1 (hsp (fun o M' => o = .returned none ∧ M' = M1) ⟨rfl, rfl⟩) (fun v M' h => by obtain ⟨h1, rfl⟩ := h; cases h1; exact kk) (fun q M' h => by cases h.1)
end SH
end
section
/-! Ways over a table of free steps: fr t n m: from node n at tick t to node m at tick t + 1. Ticks 0 .. 64, nodes 0 .. 7. -/
/-- the least of f over those places of a list that p takes, below l -/
def g_min (f : Nat → Nat) (p : Nat → Bool) (ms : List Nat) (l : Nat) : Nat := ms.foldl (fun l m => if f m < l ∧ p m = true then f m else l) l
theorem g_min_spec (f : Nat → Nat) (p : Nat → Bool) (ms : List Nat) : ∀ l : Nat, g_min f p ms l ≤ l ∧ (∀ m ∈ ms, p m = true → g_min f p ms l ≤ f m) ∧ (g_min f p ms l = l ∨ ∃ m ∈ ms, p m = true ∧ f m = g_min f p ms l) := by
  induction ms with
  | nil => intro l; exact ⟨Nat.le_refl _, (fun m hm => nomatch hm), Or.inl rfl⟩
  | cons a t ih =>
    intro l
    have e : g_min f p (a :: t) l = g_min f p t (if f a < l ∧ p a = true then f a else l) := rfl
    rw [e]
    obtain ⟨h1, h2, h3⟩ := ih (if f a < l ∧ p a = true then f a else l)
    by_cases hc : f a < l ∧ p a = true
    · rw [if_pos hc] at h1 h2 h3 ⊢
      refine ⟨by omega, fun m hm hp => ?_, ?_⟩
      · rcases List.mem_cons.mp hm with rfl | hm
        · exact h1
        · exact h2 m hm hp
      · rcases h3 with h3 | ⟨m, hm, hp, h3⟩
        · exact Or.inr ⟨a, List.mem_cons_self, hc.2, h3.symm⟩
        · exact Or.inr ⟨m, List.mem_cons_of_mem _ hm, hp, h3⟩
    · rw [if_neg hc] at h1 h2 h3 ⊢
      refine ⟨h1, fun m hm hp => ?_, ?_⟩
      · rcases List.mem_cons.mp hm with rfl | hm
        · have : ¬ f m < l := fun q => hc ⟨q, hp⟩
          omega
        · exact h2 m hm hp
      · rcases h3 with h3 | ⟨m, hm, hp, h3⟩
        · exact Or.inl h3
        · exact Or.inr ⟨m, List.mem_cons_of_mem _ hm, hp, h3⟩
/-- the reference's table: the soonest end from node n, d ticks before 64 -/
def g_E (fr : Nat → Nat → Nat → Bool) (g : Nat) : Nat → Nat → Nat
  | 0, n => if n = g then 64 else 99
  | d + 1, n => if n = g then 63 - d else g_min (g_E fr g d) (fr (63 - d) n) (List.range 8) 99
/-- from n the goal can be had after j ticks, at the tick e -/
def g_L (fr : Nat → Nat → Nat → Bool) (g e : Nat) : Nat → Nat → Prop
  | 0, n => n = g
  | j + 1, n => ∃ m, m < 8 ∧ fr (e - (j + 1)) n m = true ∧ g_L fr g e j m
/-- n can be had after j ticks, from a at the tick s -/
def g_R (fr : Nat → Nat → Nat → Bool) (a s : Nat) : Nat → Nat → Prop
  | 0, n => n = a
  | j + 1, m => ∃ n, n < 8 ∧ g_R fr a s j n ∧ fr (s + j) n m = true
theorem g_E_le (fr : Nat → Nat → Nat → Bool) (g e : Nat) (he : e ≤ 64) : ∀ d n : Nat, d ≤ 64 → 64 - d ≤ e → g_L fr g e (e - (64 - d)) n → g_E fr g d n ≤ e := by
  intro d
  induction d with
  | zero =>
    intro n _ h hl
    have : e = 64 := by omega
    subst this
    have hn : n = g := hl
    simp [g_E, hn]
  | succ d ih =>
    intro n hd h hl
    by_cases hn : n = g
    · simp only [g_E, if_pos hn]; omega
    · simp only [g_E, if_neg hn]
      cases hj : e - (64 - (d + 1)) with
      | zero => rw [hj] at hl; exact absurd hl hn
      | succ j =>
        rw [hj] at hl
        obtain ⟨m, hm, hf, hl'⟩ := hl
        have e1 : e - (j + 1) = 63 - d := by omega
        rw [e1] at hf
        have e2 : j = e - (64 - d) := by omega
        rw [e2] at hl'
        have h3 := ih m (by omega) (by omega) hl'
        have h4 := (g_min_spec (g_E fr g d) (fr (63 - d) n) (List.range 8) 99).2.1 m (List.mem_range.mpr hm) hf
        omega
theorem g_E_at (fr : Nat → Nat → Nat → Bool) (g : Nat) : ∀ d n : Nat, d ≤ 64 → g_E fr g d n = 99 ∨ (64 - d ≤ g_E fr g d n ∧ g_E fr g d n ≤ 64 ∧ g_L fr g (g_E fr g d n) (g_E fr g d n - (64 - d)) n) := by
  intro d
  induction d with
  | zero =>
    intro n _
    by_cases hn : n = g
    · right
      simp only [g_E, if_pos hn]
      exact ⟨by omega, by omega, hn⟩
    · left
      simp only [g_E, if_neg hn]
  | succ d ih =>
    intro n hd
    by_cases hn : n = g
    · right
      simp only [g_E, if_pos hn]
      refine ⟨by omega, by omega, ?_⟩
      have : 63 - d - (64 - (d + 1)) = 0 := by omega
      rw [this]
      exact hn
    · simp only [g_E, if_neg hn]
      obtain ⟨h1, h2, h3⟩ := g_min_spec (g_E fr g d) (fr (63 - d) n) (List.range 8) 99
      rcases h3 with h3 | ⟨m, hm, hf, h3⟩
      · exact Or.inl h3
      · rcases ih m (by omega) with h4 | ⟨h4, h5, h6⟩
        · left; omega
        · right
          rw [← h3]
          refine ⟨by omega, h5, ?_⟩
          have e1 : g_E fr g d m - (64 - (d + 1)) = (g_E fr g d m - (64 - d)) + 1 := by omega
          rw [e1]
          refine ⟨m, List.mem_range.mp hm, ?_, h6⟩
          have e2 : g_E fr g d m - (g_E fr g d m - (64 - d) + 1) = 63 - d := by omega
          rw [e2]
          exact hf
theorem g_RL (fr : Nat → Nat → Nat → Bool) (a s g e : Nat) (ha : a < 8) : ∀ j : Nat, s + j ≤ e → ((∃ n, n < 8 ∧ g_R fr a s j n ∧ g_L fr g e (e - (s + j)) n) ↔ g_L fr g e (e - s) a) := by
  intro j
  induction j with
  | zero =>
    intro _
    constructor
    · rintro ⟨n, _, hr, hl⟩
      have hr' : n = a := hr
      rw [hr'] at hl
      exact hl
    · intro hl
      exact ⟨a, ha, rfl, hl⟩
  | succ j ih =>
    intro h
    rw [← ih (by omega)]
    have e0 : e - (s + j) = (e - (s + (j + 1))) + 1 := by omega
    constructor
    · rintro ⟨m, hm, ⟨n, hn, hr, hf⟩, hl⟩
      refine ⟨n, hn, hr, ?_⟩
      rw [e0]
      refine ⟨m, hm, ?_, hl⟩
      rw [show e - (e - (s + (j + 1)) + 1) = s + j by omega]
      exact hf
    · rintro ⟨n, hn, hr, hl⟩
      rw [e0] at hl
      obtain ⟨m, hm, hf, hl'⟩ := hl
      rw [show e - (e - (s + (j + 1)) + 1) = s + j by omega] at hf
      exact ⟨m, hm, ⟨n, hn, hr, hf⟩, hl'⟩
/-- the goal after e - s ticks: forward and backward say the same -/
theorem g_goal (fr : Nat → Nat → Nat → Bool) (a s g e : Nat) (ha : a < 8) (hg : g < 8) (h : s ≤ e) : g_R fr a s (e - s) g ↔ g_L fr g e (e - s) a := by
  rw [← g_RL fr a s g e ha (e - s) (by omega)]
  have e0 : e - (s + (e - s)) = 0 := by omega
  rw [e0]
  constructor
  · intro hr; exact ⟨g, hg, hr, rfl⟩
  · rintro ⟨n, _, hr, hl⟩
    have : n = g := hl
    rw [this] at hr; exact hr
theorem g_soon (fr : Nat → Nat → Nat → Bool) (a s g e : Nat) (ha : a < 8) (hg : g < 8) (hs : s ≤ 64) (he : g_E fr g (64 - s) a = e) (h64 : e ≤ 64) : s ≤ e ∧ g_R fr a s (e - s) g ∧ ∀ e', s ≤ e' → e' < e → ¬ g_R fr a s (e' - s) g := by
  have e1 : 64 - (64 - s) = s := by omega
  rcases g_E_at fr g (64 - s) a (by omega) with h | ⟨h1, h2, h3⟩
  · omega
  · rw [he, e1] at h1 h3
    refine ⟨h1, (g_goal fr a s g e ha hg h1).mpr h3, fun e' h4 h5 hr => ?_⟩
    have h6 := (g_goal fr a s g e' ha hg h4).mp hr
    have h7 := g_E_le fr g e' (by omega) (64 - s) a (by omega) (by omega) (by rw [e1]; exact h6)
    omega
theorem g_never (fr : Nat → Nat → Nat → Bool) (a s g : Nat) (ha : a < 8) (hg : g < 8) (hs : s ≤ 64) (he : g_E fr g (64 - s) a = 99) : ∀ e', s ≤ e' → e' ≤ 64 → ¬ g_R fr a s (e' - s) g := by
  intro e' h4 h5 hr
  have e1 : 64 - (64 - s) = s := by omega
  have h6 := (g_goal fr a s g e' ha hg h4).mp hr
  have h7 := g_E_le fr g e' (by omega) (64 - s) a (by omega) (by omega) (by rw [e1]; exact h6)
  omega
/-- at a node that can be had, for the next node: the soonest end is e just when e can be had from it -/
theorem g_next (fr : Nat → Nat → Nat → Bool) (a s g e j n m : Nat) (ha : a < 8) (hs : s ≤ 64) (he : g_E fr g (64 - s) a = e) (h64 : e ≤ 64) (hj : s + j < e) (hn : n < 8) (hm : m < 8) (hr : g_R fr a s j n) (hf : fr (s + j) n m = true) :
    g_E fr g (64 - (s + j + 1)) m = e ↔ g_L fr g e (e - (s + j + 1)) m := by
  have e1 : 64 - (64 - (s + j + 1)) = s + j + 1 := by omega
  constructor
  · intro h
    rcases g_E_at fr g (64 - (s + j + 1)) m (by omega) with h1 | ⟨h1, h2, h3⟩
    · omega
    · rw [h, e1] at h3; exact h3
  · intro h
    have h1 := g_E_le fr g e h64 (64 - (s + j + 1)) m (by omega) (by omega) (by rw [e1]; exact h)
    rcases g_E_at fr g (64 - (s + j + 1)) m (by omega) with h2 | ⟨h2, h3, h4⟩
    · omega
    · rw [e1] at h2 h4
      have h5 : g_L fr g (g_E fr g (64 - (s + j + 1)) m) (g_E fr g (64 - (s + j + 1)) m - s) a :=
        (g_RL fr a s g _ ha (j + 1) (by omega)).mp ⟨m, hm, ⟨n, hn, hr, hf⟩, h4⟩
      have h6 := g_E_le fr g _ h3 (64 - s) a (by omega) (by omega) (by rw [show 64 - (64 - s) = s by omega]; exact h5)
      omega
end
section
/-! Counting: how many h below P have p. -/
def g_cnt (p : Nat → Bool) : Nat → Nat
  | 0 => 0
  | n + 1 => g_cnt p n + (if p n = true then 1 else 0)
theorem g_cnt_le (p : Nat → Bool) : ∀ P, g_cnt p P ≤ P := by
  intro P
  induction P with
  | zero => exact Nat.le_refl _
  | succ n ih => simp only [g_cnt]; split <;> omega
theorem g_cnt_congr {p q : Nat → Bool} : ∀ P, (∀ h, h < P → p h = q h) → g_cnt p P = g_cnt q P := by
  intro P
  induction P with
  | zero => intro _; rfl
  | succ n ih => intro h; simp only [g_cnt]; rw [ih (fun k hk => h k (by omega)), h n (by omega)]
/-- p and q agree but at one place -/
theorem g_cnt_one {p q : Nat → Bool} {j : Nat} : ∀ P, (∀ h, h < P → h ≠ j → p h = q h) → j < P → g_cnt p P + (if q j = true then 1 else 0) = g_cnt q P + (if p j = true then 1 else 0) := by
  intro P
  induction P with
  | zero => intro _ h; omega
  | succ n ih =>
    intro h hj
    simp only [g_cnt]
    by_cases e : j = n
    · subst e
      rw [g_cnt_congr j (fun k hk => h k (by omega) (by omega))]
      omega
    · have h1 := ih (fun k hk hne => h k (by omega) hne) (by omega)
      rw [h n (by omega) (fun z => e z.symm)]
      omega
theorem g_cnt_pos {p : Nat → Bool} : ∀ P, 0 < g_cnt p P ↔ ∃ h, h < P ∧ p h = true := by
  intro P
  induction P with
  | zero => simp [g_cnt]
  | succ n ih =>
    simp only [g_cnt]
    constructor
    · intro h
      by_cases hp : p n = true
      · exact ⟨n, by omega, hp⟩
      · rw [if_neg hp] at h
        obtain ⟨k, hk, hpk⟩ := ih.mp (by omega)
        exact ⟨k, by omega, hpk⟩
    · rintro ⟨k, hk, hpk⟩
      by_cases e : k = n
      · subst e; rw [if_pos hpk]; omega
      · have := ih.mpr ⟨k, by omega, hpk⟩
        omega
theorem g_cnt_zero {p : Nat → Bool} (P : Nat) (h : ∀ k, k < P → p k = false) : g_cnt p P = 0 := by
  rcases Nat.eq_zero_or_pos (g_cnt p P) with h0 | h0
  · exact h0
  · obtain ⟨k, hk, hp⟩ := (g_cnt_pos P).mp h0
    rw [h k hk] at hp
    cases hp
end
section
/-! The run's memory: the desk (0), its network (1 .. 5), its finder (6 .. 8), the row of parcels (9), the reference (10 .. 21), the law's row (22); behind them what is made later. Printed by wip/gen/world.py. -/
/-- ints in fields; rows of ints; the row of parcels; the law's row; later cells; cells and slots made -/
abbrev mWd : Type := (Nat → Int32) × (Nat → Nat → Int32) × (Nat → Option Nat) × (Nat → Int64) × (Nat → Option va_E) × Nat × Nat
def mWd.f (w : mWd) (i : Nat) : Int32 := w.1 i
def mWd.a (w : mWd) (i : Nat) : Nat → Int32 := w.2.1 i
def mWd.p (w : mWd) : Nat → Option Nat := w.2.2.1
def mWd.o (w : mWd) : Nat → Int64 := w.2.2.2.1
def mWd.d (w : mWd) : Nat → Option va_E := w.2.2.2.2.1
def mWd.nx (w : mWd) : Nat := w.2.2.2.2.2.1
def mWd.sl (w : mWd) : Nat := w.2.2.2.2.2.2
def mWd.sf (w : mWd) (i : Nat) (x : Int32) : mWd := (va_up w.1 i x, w.2)
def mWd.sa (w : mWd) (i : Nat) (g : Nat → Int32) : mWd := (w.1, va_up w.2.1 i g, w.2.2)
def mWd.sp (w : mWd) (g : Nat → Option Nat) : mWd := (w.1, w.2.1, g, w.2.2.2)
def mWd.so (w : mWd) (g : Nat → Int64) : mWd := (w.1, w.2.1, w.2.2.1, g, w.2.2.2.2)
def mWd.sd (w : mWd) (n : Nat) (x : va_E) : mWd := (w.1, w.2.1, w.2.2.1, w.2.2.2.1, va_up w.2.2.2.2.1 n (some x), w.2.2.2.2.2)
/-- one cell more, of n slots -/
def mWd.mk (w : mWd) (x : Option va_E) (n : Nat) : mWd := (w.1, w.2.1, w.2.2.1, w.2.2.2.1, va_up w.2.2.2.2.1 (w.nx - 23) x, w.nx + 1, w.sl + n)
def mw (w : mWd) : mM := (fun i => match i with
  | 0 => some (.inr (3, [.ref 1, .ref 6, .ref 9, .int (w.f 3), .int (w.f 4)]))
  | 1 => some (.inr (0, [.int (w.f 0), .int (w.f 1), .int (w.f 2), .ref 2, .ref 3, .ref 4, .ref 5]))
  | 2 => some (.inl (0, 8, .inl (w.a 2)))
  | 3 => some (.inl (0, 512, .inl (w.a 3)))
  | 4 => some (.inl (0, 512, .inl (w.a 4)))
  | 5 => some (.inl (0, 512, .inl (w.a 5)))
  | 6 => some (.inr (2, [.ref 7, .ref 8]))
  | 7 => some (.inl (0, 65, .inl (w.a 7)))
  | 8 => some (.inl (0, 65, .inl (w.a 8)))
  | 9 => some (.inl (3, 32, .inr (.inr (.inr (.inr w.p)))))
  | 10 => some (.inr (4, [.int (w.f 5), .int (w.f 6), .int (w.f 7), .ref 11, .ref 12, .int (w.f 8), .ref 13, .ref 14, .ref 15, .ref 16, .ref 17, .ref 18, .ref 19, .ref 20, .ref 21]))
  | 11 => some (.inl (0, 8, .inl (w.a 11)))
  | 12 => some (.inl (2, 4096, .inl (w.a 12)))
  | 13 => some (.inl (0, 32, .inl (w.a 13)))
  | 14 => some (.inl (0, 32, .inl (w.a 14)))
  | 15 => some (.inl (0, 32, .inl (w.a 15)))
  | 16 => some (.inl (0, 32, .inl (w.a 16)))
  | 17 => some (.inl (0, 32, .inl (w.a 17)))
  | 18 => some (.inl (0, 32, .inl (w.a 18)))
  | 19 => some (.inl (0, 2080, .inl (w.a 19)))
  | 20 => some (.inl (2, 32, .inl (w.a 20)))
  | 21 => some (.inl (0, 520, .inl (w.a 21)))
  | 22 => some (.inl (1, 1, .inr (.inl w.o)))
  | n + 23 => w.d n, w.nx, w.sl)
theorem mw_f3 (w : mWd) (x : Int32) : m_put (mw w) 0 (.inr (3, [.ref 1, .ref 6, .ref 9, .int x, .int (w.f 4)])) = mw (w.sf 3 x) := by
  refine Prod.ext (funext fun i => ?_) rfl
  match i with
  | 0 => rfl
  | 1 => rfl
  | 2 => rfl
  | 3 => rfl
  | 4 => rfl
  | 5 => rfl
  | 6 => rfl
  | 7 => rfl
  | 8 => rfl
  | 9 => rfl
  | 10 => rfl
  | 11 => rfl
  | 12 => rfl
  | 13 => rfl
  | 14 => rfl
  | 15 => rfl
  | 16 => rfl
  | 17 => rfl
  | 18 => rfl
  | 19 => rfl
  | 20 => rfl
  | 21 => rfl
  | 22 => rfl
  | n + 23 => rfl
theorem mw_f4 (w : mWd) (x : Int32) : m_put (mw w) 0 (.inr (3, [.ref 1, .ref 6, .ref 9, .int (w.f 3), .int x])) = mw (w.sf 4 x) := by
  refine Prod.ext (funext fun i => ?_) rfl
  match i with
  | 0 => rfl
  | 1 => rfl
  | 2 => rfl
  | 3 => rfl
  | 4 => rfl
  | 5 => rfl
  | 6 => rfl
  | 7 => rfl
  | 8 => rfl
  | 9 => rfl
  | 10 => rfl
  | 11 => rfl
  | 12 => rfl
  | 13 => rfl
  | 14 => rfl
  | 15 => rfl
  | 16 => rfl
  | 17 => rfl
  | 18 => rfl
  | 19 => rfl
  | 20 => rfl
  | 21 => rfl
  | 22 => rfl
  | n + 23 => rfl
theorem mw_f0 (w : mWd) (x : Int32) : m_put (mw w) 1 (.inr (0, [.int x, .int (w.f 1), .int (w.f 2), .ref 2, .ref 3, .ref 4, .ref 5])) = mw (w.sf 0 x) := by
  refine Prod.ext (funext fun i => ?_) rfl
  match i with
  | 0 => rfl
  | 1 => rfl
  | 2 => rfl
  | 3 => rfl
  | 4 => rfl
  | 5 => rfl
  | 6 => rfl
  | 7 => rfl
  | 8 => rfl
  | 9 => rfl
  | 10 => rfl
  | 11 => rfl
  | 12 => rfl
  | 13 => rfl
  | 14 => rfl
  | 15 => rfl
  | 16 => rfl
  | 17 => rfl
  | 18 => rfl
  | 19 => rfl
  | 20 => rfl
  | 21 => rfl
  | 22 => rfl
  | n + 23 => rfl
theorem mw_f1 (w : mWd) (x : Int32) : m_put (mw w) 1 (.inr (0, [.int (w.f 0), .int x, .int (w.f 2), .ref 2, .ref 3, .ref 4, .ref 5])) = mw (w.sf 1 x) := by
  refine Prod.ext (funext fun i => ?_) rfl
  match i with
  | 0 => rfl
  | 1 => rfl
  | 2 => rfl
  | 3 => rfl
  | 4 => rfl
  | 5 => rfl
  | 6 => rfl
  | 7 => rfl
  | 8 => rfl
  | 9 => rfl
  | 10 => rfl
  | 11 => rfl
  | 12 => rfl
  | 13 => rfl
  | 14 => rfl
  | 15 => rfl
  | 16 => rfl
  | 17 => rfl
  | 18 => rfl
  | 19 => rfl
  | 20 => rfl
  | 21 => rfl
  | 22 => rfl
  | n + 23 => rfl
theorem mw_f2 (w : mWd) (x : Int32) : m_put (mw w) 1 (.inr (0, [.int (w.f 0), .int (w.f 1), .int x, .ref 2, .ref 3, .ref 4, .ref 5])) = mw (w.sf 2 x) := by
  refine Prod.ext (funext fun i => ?_) rfl
  match i with
  | 0 => rfl
  | 1 => rfl
  | 2 => rfl
  | 3 => rfl
  | 4 => rfl
  | 5 => rfl
  | 6 => rfl
  | 7 => rfl
  | 8 => rfl
  | 9 => rfl
  | 10 => rfl
  | 11 => rfl
  | 12 => rfl
  | 13 => rfl
  | 14 => rfl
  | 15 => rfl
  | 16 => rfl
  | 17 => rfl
  | 18 => rfl
  | 19 => rfl
  | 20 => rfl
  | 21 => rfl
  | 22 => rfl
  | n + 23 => rfl
theorem mw_f5 (w : mWd) (x : Int32) : m_put (mw w) 10 (.inr (4, [.int x, .int (w.f 6), .int (w.f 7), .ref 11, .ref 12, .int (w.f 8), .ref 13, .ref 14, .ref 15, .ref 16, .ref 17, .ref 18, .ref 19, .ref 20, .ref 21])) = mw (w.sf 5 x) := by
  refine Prod.ext (funext fun i => ?_) rfl
  match i with
  | 0 => rfl
  | 1 => rfl
  | 2 => rfl
  | 3 => rfl
  | 4 => rfl
  | 5 => rfl
  | 6 => rfl
  | 7 => rfl
  | 8 => rfl
  | 9 => rfl
  | 10 => rfl
  | 11 => rfl
  | 12 => rfl
  | 13 => rfl
  | 14 => rfl
  | 15 => rfl
  | 16 => rfl
  | 17 => rfl
  | 18 => rfl
  | 19 => rfl
  | 20 => rfl
  | 21 => rfl
  | 22 => rfl
  | n + 23 => rfl
theorem mw_f6 (w : mWd) (x : Int32) : m_put (mw w) 10 (.inr (4, [.int (w.f 5), .int x, .int (w.f 7), .ref 11, .ref 12, .int (w.f 8), .ref 13, .ref 14, .ref 15, .ref 16, .ref 17, .ref 18, .ref 19, .ref 20, .ref 21])) = mw (w.sf 6 x) := by
  refine Prod.ext (funext fun i => ?_) rfl
  match i with
  | 0 => rfl
  | 1 => rfl
  | 2 => rfl
  | 3 => rfl
  | 4 => rfl
  | 5 => rfl
  | 6 => rfl
  | 7 => rfl
  | 8 => rfl
  | 9 => rfl
  | 10 => rfl
  | 11 => rfl
  | 12 => rfl
  | 13 => rfl
  | 14 => rfl
  | 15 => rfl
  | 16 => rfl
  | 17 => rfl
  | 18 => rfl
  | 19 => rfl
  | 20 => rfl
  | 21 => rfl
  | 22 => rfl
  | n + 23 => rfl
theorem mw_f7 (w : mWd) (x : Int32) : m_put (mw w) 10 (.inr (4, [.int (w.f 5), .int (w.f 6), .int x, .ref 11, .ref 12, .int (w.f 8), .ref 13, .ref 14, .ref 15, .ref 16, .ref 17, .ref 18, .ref 19, .ref 20, .ref 21])) = mw (w.sf 7 x) := by
  refine Prod.ext (funext fun i => ?_) rfl
  match i with
  | 0 => rfl
  | 1 => rfl
  | 2 => rfl
  | 3 => rfl
  | 4 => rfl
  | 5 => rfl
  | 6 => rfl
  | 7 => rfl
  | 8 => rfl
  | 9 => rfl
  | 10 => rfl
  | 11 => rfl
  | 12 => rfl
  | 13 => rfl
  | 14 => rfl
  | 15 => rfl
  | 16 => rfl
  | 17 => rfl
  | 18 => rfl
  | 19 => rfl
  | 20 => rfl
  | 21 => rfl
  | 22 => rfl
  | n + 23 => rfl
theorem mw_f8 (w : mWd) (x : Int32) : m_put (mw w) 10 (.inr (4, [.int (w.f 5), .int (w.f 6), .int (w.f 7), .ref 11, .ref 12, .int x, .ref 13, .ref 14, .ref 15, .ref 16, .ref 17, .ref 18, .ref 19, .ref 20, .ref 21])) = mw (w.sf 8 x) := by
  refine Prod.ext (funext fun i => ?_) rfl
  match i with
  | 0 => rfl
  | 1 => rfl
  | 2 => rfl
  | 3 => rfl
  | 4 => rfl
  | 5 => rfl
  | 6 => rfl
  | 7 => rfl
  | 8 => rfl
  | 9 => rfl
  | 10 => rfl
  | 11 => rfl
  | 12 => rfl
  | 13 => rfl
  | 14 => rfl
  | 15 => rfl
  | 16 => rfl
  | 17 => rfl
  | 18 => rfl
  | 19 => rfl
  | 20 => rfl
  | 21 => rfl
  | 22 => rfl
  | n + 23 => rfl
theorem mw_a2 (w : mWd) (g : Nat → Int32) : m_put (mw w) 2 (.inl (0, 8, .inl g)) = mw (w.sa 2 g) := by
  refine Prod.ext (funext fun i => ?_) rfl
  match i with
  | 0 => rfl
  | 1 => rfl
  | 2 => rfl
  | 3 => rfl
  | 4 => rfl
  | 5 => rfl
  | 6 => rfl
  | 7 => rfl
  | 8 => rfl
  | 9 => rfl
  | 10 => rfl
  | 11 => rfl
  | 12 => rfl
  | 13 => rfl
  | 14 => rfl
  | 15 => rfl
  | 16 => rfl
  | 17 => rfl
  | 18 => rfl
  | 19 => rfl
  | 20 => rfl
  | 21 => rfl
  | 22 => rfl
  | n + 23 => rfl
theorem mw_a3 (w : mWd) (g : Nat → Int32) : m_put (mw w) 3 (.inl (0, 512, .inl g)) = mw (w.sa 3 g) := by
  refine Prod.ext (funext fun i => ?_) rfl
  match i with
  | 0 => rfl
  | 1 => rfl
  | 2 => rfl
  | 3 => rfl
  | 4 => rfl
  | 5 => rfl
  | 6 => rfl
  | 7 => rfl
  | 8 => rfl
  | 9 => rfl
  | 10 => rfl
  | 11 => rfl
  | 12 => rfl
  | 13 => rfl
  | 14 => rfl
  | 15 => rfl
  | 16 => rfl
  | 17 => rfl
  | 18 => rfl
  | 19 => rfl
  | 20 => rfl
  | 21 => rfl
  | 22 => rfl
  | n + 23 => rfl
theorem mw_a4 (w : mWd) (g : Nat → Int32) : m_put (mw w) 4 (.inl (0, 512, .inl g)) = mw (w.sa 4 g) := by
  refine Prod.ext (funext fun i => ?_) rfl
  match i with
  | 0 => rfl
  | 1 => rfl
  | 2 => rfl
  | 3 => rfl
  | 4 => rfl
  | 5 => rfl
  | 6 => rfl
  | 7 => rfl
  | 8 => rfl
  | 9 => rfl
  | 10 => rfl
  | 11 => rfl
  | 12 => rfl
  | 13 => rfl
  | 14 => rfl
  | 15 => rfl
  | 16 => rfl
  | 17 => rfl
  | 18 => rfl
  | 19 => rfl
  | 20 => rfl
  | 21 => rfl
  | 22 => rfl
  | n + 23 => rfl
theorem mw_a5 (w : mWd) (g : Nat → Int32) : m_put (mw w) 5 (.inl (0, 512, .inl g)) = mw (w.sa 5 g) := by
  refine Prod.ext (funext fun i => ?_) rfl
  match i with
  | 0 => rfl
  | 1 => rfl
  | 2 => rfl
  | 3 => rfl
  | 4 => rfl
  | 5 => rfl
  | 6 => rfl
  | 7 => rfl
  | 8 => rfl
  | 9 => rfl
  | 10 => rfl
  | 11 => rfl
  | 12 => rfl
  | 13 => rfl
  | 14 => rfl
  | 15 => rfl
  | 16 => rfl
  | 17 => rfl
  | 18 => rfl
  | 19 => rfl
  | 20 => rfl
  | 21 => rfl
  | 22 => rfl
  | n + 23 => rfl
theorem mw_a7 (w : mWd) (g : Nat → Int32) : m_put (mw w) 7 (.inl (0, 65, .inl g)) = mw (w.sa 7 g) := by
  refine Prod.ext (funext fun i => ?_) rfl
  match i with
  | 0 => rfl
  | 1 => rfl
  | 2 => rfl
  | 3 => rfl
  | 4 => rfl
  | 5 => rfl
  | 6 => rfl
  | 7 => rfl
  | 8 => rfl
  | 9 => rfl
  | 10 => rfl
  | 11 => rfl
  | 12 => rfl
  | 13 => rfl
  | 14 => rfl
  | 15 => rfl
  | 16 => rfl
  | 17 => rfl
  | 18 => rfl
  | 19 => rfl
  | 20 => rfl
  | 21 => rfl
  | 22 => rfl
  | n + 23 => rfl
theorem mw_a8 (w : mWd) (g : Nat → Int32) : m_put (mw w) 8 (.inl (0, 65, .inl g)) = mw (w.sa 8 g) := by
  refine Prod.ext (funext fun i => ?_) rfl
  match i with
  | 0 => rfl
  | 1 => rfl
  | 2 => rfl
  | 3 => rfl
  | 4 => rfl
  | 5 => rfl
  | 6 => rfl
  | 7 => rfl
  | 8 => rfl
  | 9 => rfl
  | 10 => rfl
  | 11 => rfl
  | 12 => rfl
  | 13 => rfl
  | 14 => rfl
  | 15 => rfl
  | 16 => rfl
  | 17 => rfl
  | 18 => rfl
  | 19 => rfl
  | 20 => rfl
  | 21 => rfl
  | 22 => rfl
  | n + 23 => rfl
theorem mw_a11 (w : mWd) (g : Nat → Int32) : m_put (mw w) 11 (.inl (0, 8, .inl g)) = mw (w.sa 11 g) := by
  refine Prod.ext (funext fun i => ?_) rfl
  match i with
  | 0 => rfl
  | 1 => rfl
  | 2 => rfl
  | 3 => rfl
  | 4 => rfl
  | 5 => rfl
  | 6 => rfl
  | 7 => rfl
  | 8 => rfl
  | 9 => rfl
  | 10 => rfl
  | 11 => rfl
  | 12 => rfl
  | 13 => rfl
  | 14 => rfl
  | 15 => rfl
  | 16 => rfl
  | 17 => rfl
  | 18 => rfl
  | 19 => rfl
  | 20 => rfl
  | 21 => rfl
  | 22 => rfl
  | n + 23 => rfl
theorem mw_a12 (w : mWd) (g : Nat → Int32) : m_put (mw w) 12 (.inl (2, 4096, .inl g)) = mw (w.sa 12 g) := by
  refine Prod.ext (funext fun i => ?_) rfl
  match i with
  | 0 => rfl
  | 1 => rfl
  | 2 => rfl
  | 3 => rfl
  | 4 => rfl
  | 5 => rfl
  | 6 => rfl
  | 7 => rfl
  | 8 => rfl
  | 9 => rfl
  | 10 => rfl
  | 11 => rfl
  | 12 => rfl
  | 13 => rfl
  | 14 => rfl
  | 15 => rfl
  | 16 => rfl
  | 17 => rfl
  | 18 => rfl
  | 19 => rfl
  | 20 => rfl
  | 21 => rfl
  | 22 => rfl
  | n + 23 => rfl
theorem mw_a13 (w : mWd) (g : Nat → Int32) : m_put (mw w) 13 (.inl (0, 32, .inl g)) = mw (w.sa 13 g) := by
  refine Prod.ext (funext fun i => ?_) rfl
  match i with
  | 0 => rfl
  | 1 => rfl
  | 2 => rfl
  | 3 => rfl
  | 4 => rfl
  | 5 => rfl
  | 6 => rfl
  | 7 => rfl
  | 8 => rfl
  | 9 => rfl
  | 10 => rfl
  | 11 => rfl
  | 12 => rfl
  | 13 => rfl
  | 14 => rfl
  | 15 => rfl
  | 16 => rfl
  | 17 => rfl
  | 18 => rfl
  | 19 => rfl
  | 20 => rfl
  | 21 => rfl
  | 22 => rfl
  | n + 23 => rfl
theorem mw_a14 (w : mWd) (g : Nat → Int32) : m_put (mw w) 14 (.inl (0, 32, .inl g)) = mw (w.sa 14 g) := by
  refine Prod.ext (funext fun i => ?_) rfl
  match i with
  | 0 => rfl
  | 1 => rfl
  | 2 => rfl
  | 3 => rfl
  | 4 => rfl
  | 5 => rfl
  | 6 => rfl
  | 7 => rfl
  | 8 => rfl
  | 9 => rfl
  | 10 => rfl
  | 11 => rfl
  | 12 => rfl
  | 13 => rfl
  | 14 => rfl
  | 15 => rfl
  | 16 => rfl
  | 17 => rfl
  | 18 => rfl
  | 19 => rfl
  | 20 => rfl
  | 21 => rfl
  | 22 => rfl
  | n + 23 => rfl
theorem mw_a15 (w : mWd) (g : Nat → Int32) : m_put (mw w) 15 (.inl (0, 32, .inl g)) = mw (w.sa 15 g) := by
  refine Prod.ext (funext fun i => ?_) rfl
  match i with
  | 0 => rfl
  | 1 => rfl
  | 2 => rfl
  | 3 => rfl
  | 4 => rfl
  | 5 => rfl
  | 6 => rfl
  | 7 => rfl
  | 8 => rfl
  | 9 => rfl
  | 10 => rfl
  | 11 => rfl
  | 12 => rfl
  | 13 => rfl
  | 14 => rfl
  | 15 => rfl
  | 16 => rfl
  | 17 => rfl
  | 18 => rfl
  | 19 => rfl
  | 20 => rfl
  | 21 => rfl
  | 22 => rfl
  | n + 23 => rfl
theorem mw_a16 (w : mWd) (g : Nat → Int32) : m_put (mw w) 16 (.inl (0, 32, .inl g)) = mw (w.sa 16 g) := by
  refine Prod.ext (funext fun i => ?_) rfl
  match i with
  | 0 => rfl
  | 1 => rfl
  | 2 => rfl
  | 3 => rfl
  | 4 => rfl
  | 5 => rfl
  | 6 => rfl
  | 7 => rfl
  | 8 => rfl
  | 9 => rfl
  | 10 => rfl
  | 11 => rfl
  | 12 => rfl
  | 13 => rfl
  | 14 => rfl
  | 15 => rfl
  | 16 => rfl
  | 17 => rfl
  | 18 => rfl
  | 19 => rfl
  | 20 => rfl
  | 21 => rfl
  | 22 => rfl
  | n + 23 => rfl
theorem mw_a17 (w : mWd) (g : Nat → Int32) : m_put (mw w) 17 (.inl (0, 32, .inl g)) = mw (w.sa 17 g) := by
  refine Prod.ext (funext fun i => ?_) rfl
  match i with
  | 0 => rfl
  | 1 => rfl
  | 2 => rfl
  | 3 => rfl
  | 4 => rfl
  | 5 => rfl
  | 6 => rfl
  | 7 => rfl
  | 8 => rfl
  | 9 => rfl
  | 10 => rfl
  | 11 => rfl
  | 12 => rfl
  | 13 => rfl
  | 14 => rfl
  | 15 => rfl
  | 16 => rfl
  | 17 => rfl
  | 18 => rfl
  | 19 => rfl
  | 20 => rfl
  | 21 => rfl
  | 22 => rfl
  | n + 23 => rfl
theorem mw_a18 (w : mWd) (g : Nat → Int32) : m_put (mw w) 18 (.inl (0, 32, .inl g)) = mw (w.sa 18 g) := by
  refine Prod.ext (funext fun i => ?_) rfl
  match i with
  | 0 => rfl
  | 1 => rfl
  | 2 => rfl
  | 3 => rfl
  | 4 => rfl
  | 5 => rfl
  | 6 => rfl
  | 7 => rfl
  | 8 => rfl
  | 9 => rfl
  | 10 => rfl
  | 11 => rfl
  | 12 => rfl
  | 13 => rfl
  | 14 => rfl
  | 15 => rfl
  | 16 => rfl
  | 17 => rfl
  | 18 => rfl
  | 19 => rfl
  | 20 => rfl
  | 21 => rfl
  | 22 => rfl
  | n + 23 => rfl
theorem mw_a19 (w : mWd) (g : Nat → Int32) : m_put (mw w) 19 (.inl (0, 2080, .inl g)) = mw (w.sa 19 g) := by
  refine Prod.ext (funext fun i => ?_) rfl
  match i with
  | 0 => rfl
  | 1 => rfl
  | 2 => rfl
  | 3 => rfl
  | 4 => rfl
  | 5 => rfl
  | 6 => rfl
  | 7 => rfl
  | 8 => rfl
  | 9 => rfl
  | 10 => rfl
  | 11 => rfl
  | 12 => rfl
  | 13 => rfl
  | 14 => rfl
  | 15 => rfl
  | 16 => rfl
  | 17 => rfl
  | 18 => rfl
  | 19 => rfl
  | 20 => rfl
  | 21 => rfl
  | 22 => rfl
  | n + 23 => rfl
theorem mw_a20 (w : mWd) (g : Nat → Int32) : m_put (mw w) 20 (.inl (2, 32, .inl g)) = mw (w.sa 20 g) := by
  refine Prod.ext (funext fun i => ?_) rfl
  match i with
  | 0 => rfl
  | 1 => rfl
  | 2 => rfl
  | 3 => rfl
  | 4 => rfl
  | 5 => rfl
  | 6 => rfl
  | 7 => rfl
  | 8 => rfl
  | 9 => rfl
  | 10 => rfl
  | 11 => rfl
  | 12 => rfl
  | 13 => rfl
  | 14 => rfl
  | 15 => rfl
  | 16 => rfl
  | 17 => rfl
  | 18 => rfl
  | 19 => rfl
  | 20 => rfl
  | 21 => rfl
  | 22 => rfl
  | n + 23 => rfl
theorem mw_a21 (w : mWd) (g : Nat → Int32) : m_put (mw w) 21 (.inl (0, 520, .inl g)) = mw (w.sa 21 g) := by
  refine Prod.ext (funext fun i => ?_) rfl
  match i with
  | 0 => rfl
  | 1 => rfl
  | 2 => rfl
  | 3 => rfl
  | 4 => rfl
  | 5 => rfl
  | 6 => rfl
  | 7 => rfl
  | 8 => rfl
  | 9 => rfl
  | 10 => rfl
  | 11 => rfl
  | 12 => rfl
  | 13 => rfl
  | 14 => rfl
  | 15 => rfl
  | 16 => rfl
  | 17 => rfl
  | 18 => rfl
  | 19 => rfl
  | 20 => rfl
  | 21 => rfl
  | 22 => rfl
  | n + 23 => rfl
theorem mw_p (w : mWd) (g : Nat → Option Nat) : m_put (mw w) 9 (.inl (3, 32, .inr (.inr (.inr (.inr g))))) = mw (w.sp g) := by
  refine Prod.ext (funext fun i => ?_) rfl
  match i with
  | 0 => rfl
  | 1 => rfl
  | 2 => rfl
  | 3 => rfl
  | 4 => rfl
  | 5 => rfl
  | 6 => rfl
  | 7 => rfl
  | 8 => rfl
  | 9 => rfl
  | 10 => rfl
  | 11 => rfl
  | 12 => rfl
  | 13 => rfl
  | 14 => rfl
  | 15 => rfl
  | 16 => rfl
  | 17 => rfl
  | 18 => rfl
  | 19 => rfl
  | 20 => rfl
  | 21 => rfl
  | 22 => rfl
  | n + 23 => rfl
theorem mw_o (w : mWd) (g : Nat → Int64) : m_put (mw w) 22 (.inl (1, 1, .inr (.inl g))) = mw (w.so g) := by
  refine Prod.ext (funext fun i => ?_) rfl
  match i with
  | 0 => rfl
  | 1 => rfl
  | 2 => rfl
  | 3 => rfl
  | 4 => rfl
  | 5 => rfl
  | 6 => rfl
  | 7 => rfl
  | 8 => rfl
  | 9 => rfl
  | 10 => rfl
  | 11 => rfl
  | 12 => rfl
  | 13 => rfl
  | 14 => rfl
  | 15 => rfl
  | 16 => rfl
  | 17 => rfl
  | 18 => rfl
  | 19 => rfl
  | 20 => rfl
  | 21 => rfl
  | 22 => rfl
  | n + 23 => rfl
theorem mw_d (w : mWd) (n : Nat) (x : va_E) : m_put (mw w) (n + 23) x = mw (w.sd n x) := by
  refine Prod.ext (funext fun i => ?_) rfl
  match i with
  | 0 => rfl
  | 1 => rfl
  | 2 => rfl
  | 3 => rfl
  | 4 => rfl
  | 5 => rfl
  | 6 => rfl
  | 7 => rfl
  | 8 => rfl
  | 9 => rfl
  | 10 => rfl
  | 11 => rfl
  | 12 => rfl
  | 13 => rfl
  | 14 => rfl
  | 15 => rfl
  | 16 => rfl
  | 17 => rfl
  | 18 => rfl
  | 19 => rfl
  | 20 => rfl
  | 21 => rfl
  | 22 => rfl
  | j + 23 =>
    show (if j + 23 = n + 23 then some x else w.d j) = (if j = n then some x else w.d j)
    by_cases h : j = n
    · rw [if_pos h, if_pos (by omega)]
    · rw [if_neg h, if_neg (by omega)]
theorem mw_new (w : mWd) (x : Option va_E) (n : Nat) (h : 23 ≤ w.nx) : m_new (mw w) x n = mw (w.mk x n) := by
  obtain ⟨j, hj⟩ : ∃ j, w.nx = j + 23 := ⟨w.nx - 23, by omega⟩
  refine Prod.ext (funext fun i => ?_) rfl
  match i with
  | 0 =>
    show (if 0 = w.nx then _ else _) = _
    rw [if_neg (by omega)]
    rfl
  | 1 =>
    show (if 1 = w.nx then _ else _) = _
    rw [if_neg (by omega)]
    rfl
  | 2 =>
    show (if 2 = w.nx then _ else _) = _
    rw [if_neg (by omega)]
    rfl
  | 3 =>
    show (if 3 = w.nx then _ else _) = _
    rw [if_neg (by omega)]
    rfl
  | 4 =>
    show (if 4 = w.nx then _ else _) = _
    rw [if_neg (by omega)]
    rfl
  | 5 =>
    show (if 5 = w.nx then _ else _) = _
    rw [if_neg (by omega)]
    rfl
  | 6 =>
    show (if 6 = w.nx then _ else _) = _
    rw [if_neg (by omega)]
    rfl
  | 7 =>
    show (if 7 = w.nx then _ else _) = _
    rw [if_neg (by omega)]
    rfl
  | 8 =>
    show (if 8 = w.nx then _ else _) = _
    rw [if_neg (by omega)]
    rfl
  | 9 =>
    show (if 9 = w.nx then _ else _) = _
    rw [if_neg (by omega)]
    rfl
  | 10 =>
    show (if 10 = w.nx then _ else _) = _
    rw [if_neg (by omega)]
    rfl
  | 11 =>
    show (if 11 = w.nx then _ else _) = _
    rw [if_neg (by omega)]
    rfl
  | 12 =>
    show (if 12 = w.nx then _ else _) = _
    rw [if_neg (by omega)]
    rfl
  | 13 =>
    show (if 13 = w.nx then _ else _) = _
    rw [if_neg (by omega)]
    rfl
  | 14 =>
    show (if 14 = w.nx then _ else _) = _
    rw [if_neg (by omega)]
    rfl
  | 15 =>
    show (if 15 = w.nx then _ else _) = _
    rw [if_neg (by omega)]
    rfl
  | 16 =>
    show (if 16 = w.nx then _ else _) = _
    rw [if_neg (by omega)]
    rfl
  | 17 =>
    show (if 17 = w.nx then _ else _) = _
    rw [if_neg (by omega)]
    rfl
  | 18 =>
    show (if 18 = w.nx then _ else _) = _
    rw [if_neg (by omega)]
    rfl
  | 19 =>
    show (if 19 = w.nx then _ else _) = _
    rw [if_neg (by omega)]
    rfl
  | 20 =>
    show (if 20 = w.nx then _ else _) = _
    rw [if_neg (by omega)]
    rfl
  | 21 =>
    show (if 21 = w.nx then _ else _) = _
    rw [if_neg (by omega)]
    rfl
  | 22 =>
    show (if 22 = w.nx then _ else _) = _
    rw [if_neg (by omega)]
    rfl
  | k + 23 =>
    show (if k + 23 = w.nx then x else w.d k) = (if k = w.nx - 23 then x else w.d k)
    by_cases h : k = j
    · rw [if_pos (by omega), if_pos (by omega)]
    · rw [if_neg (by omega), if_neg (by omega)]
section WR
variable {X : mX} {k F N C S : Nat} {pc : Nat} {ls : List (Nat × Value)} {st : List Value} {w : mWd} {Q : Outcome → mM → Prop}
theorem Sp.pf3 {idx : Nat} {x : Int32} (hi : m_i k pc = some (.putfield idx, 3, 3)) (kk : Sp X k F N C S (pc + 3, ls, st) (mw (w.sf 3 x)) Q) : Sp X k F N C S (pc, ls, .int x :: .ref 0 :: st) (mw w) Q := Sp.put hi rfl (Nat.le_of_ble_eq_true rfl) rfl (by rw [← mw_f3] at kk; exact kk)
theorem Sp.pf4 {idx : Nat} {x : Int32} (hi : m_i k pc = some (.putfield idx, 3, 4)) (kk : Sp X k F N C S (pc + 3, ls, st) (mw (w.sf 4 x)) Q) : Sp X k F N C S (pc, ls, .int x :: .ref 0 :: st) (mw w) Q := Sp.put hi rfl (Nat.le_of_ble_eq_true rfl) rfl (by rw [← mw_f4] at kk; exact kk)
theorem Sp.pf0 {idx : Nat} {x : Int32} (hi : m_i k pc = some (.putfield idx, 0, 0)) (kk : Sp X k F N C S (pc + 3, ls, st) (mw (w.sf 0 x)) Q) : Sp X k F N C S (pc, ls, .int x :: .ref 1 :: st) (mw w) Q := Sp.put hi rfl (Nat.le_of_ble_eq_true rfl) rfl (by rw [← mw_f0] at kk; exact kk)
theorem Sp.pf1 {idx : Nat} {x : Int32} (hi : m_i k pc = some (.putfield idx, 0, 1)) (kk : Sp X k F N C S (pc + 3, ls, st) (mw (w.sf 1 x)) Q) : Sp X k F N C S (pc, ls, .int x :: .ref 1 :: st) (mw w) Q := Sp.put hi rfl (Nat.le_of_ble_eq_true rfl) rfl (by rw [← mw_f1] at kk; exact kk)
theorem Sp.pf2 {idx : Nat} {x : Int32} (hi : m_i k pc = some (.putfield idx, 0, 2)) (kk : Sp X k F N C S (pc + 3, ls, st) (mw (w.sf 2 x)) Q) : Sp X k F N C S (pc, ls, .int x :: .ref 1 :: st) (mw w) Q := Sp.put hi rfl (Nat.le_of_ble_eq_true rfl) rfl (by rw [← mw_f2] at kk; exact kk)
theorem Sp.pf5 {idx : Nat} {x : Int32} (hi : m_i k pc = some (.putfield idx, 4, 0)) (kk : Sp X k F N C S (pc + 3, ls, st) (mw (w.sf 5 x)) Q) : Sp X k F N C S (pc, ls, .int x :: .ref 10 :: st) (mw w) Q := Sp.put hi rfl (Nat.le_of_ble_eq_true rfl) rfl (by rw [← mw_f5] at kk; exact kk)
theorem Sp.pf6 {idx : Nat} {x : Int32} (hi : m_i k pc = some (.putfield idx, 4, 1)) (kk : Sp X k F N C S (pc + 3, ls, st) (mw (w.sf 6 x)) Q) : Sp X k F N C S (pc, ls, .int x :: .ref 10 :: st) (mw w) Q := Sp.put hi rfl (Nat.le_of_ble_eq_true rfl) rfl (by rw [← mw_f6] at kk; exact kk)
theorem Sp.pf7 {idx : Nat} {x : Int32} (hi : m_i k pc = some (.putfield idx, 4, 2)) (kk : Sp X k F N C S (pc + 3, ls, st) (mw (w.sf 7 x)) Q) : Sp X k F N C S (pc, ls, .int x :: .ref 10 :: st) (mw w) Q := Sp.put hi rfl (Nat.le_of_ble_eq_true rfl) rfl (by rw [← mw_f7] at kk; exact kk)
theorem Sp.pf8 {idx : Nat} {x : Int32} (hi : m_i k pc = some (.putfield idx, 4, 5)) (kk : Sp X k F N C S (pc + 3, ls, st) (mw (w.sf 8 x)) Q) : Sp X k F N C S (pc, ls, .int x :: .ref 10 :: st) (mw w) Q := Sp.put hi rfl (Nat.le_of_ble_eq_true rfl) rfl (by rw [← mw_f8] at kk; exact kk)
theorem Sp.pa2 {i x : Int32} {j x0 y0 : Nat} (hi : m_i k pc = some (.iastore, x0, y0)) (hj : m_ix i j 8) (kk : Sp X k F N C S (pc + 1, ls, st) (mw (w.sa 2 (upd (w.a 2) j x))) Q) : Sp X k F N C S (pc, ls, .int x :: .int i :: .ref 2 :: st) (mw w) Q := Sp.iast hi rfl hj (by rw [← mw_a2] at kk; exact kk)
theorem Sp.pa3 {i x : Int32} {j x0 y0 : Nat} (hi : m_i k pc = some (.iastore, x0, y0)) (hj : m_ix i j 512) (kk : Sp X k F N C S (pc + 1, ls, st) (mw (w.sa 3 (upd (w.a 3) j x))) Q) : Sp X k F N C S (pc, ls, .int x :: .int i :: .ref 3 :: st) (mw w) Q := Sp.iast hi rfl hj (by rw [← mw_a3] at kk; exact kk)
theorem Sp.pa4 {i x : Int32} {j x0 y0 : Nat} (hi : m_i k pc = some (.iastore, x0, y0)) (hj : m_ix i j 512) (kk : Sp X k F N C S (pc + 1, ls, st) (mw (w.sa 4 (upd (w.a 4) j x))) Q) : Sp X k F N C S (pc, ls, .int x :: .int i :: .ref 4 :: st) (mw w) Q := Sp.iast hi rfl hj (by rw [← mw_a4] at kk; exact kk)
theorem Sp.pa5 {i x : Int32} {j x0 y0 : Nat} (hi : m_i k pc = some (.iastore, x0, y0)) (hj : m_ix i j 512) (kk : Sp X k F N C S (pc + 1, ls, st) (mw (w.sa 5 (upd (w.a 5) j x))) Q) : Sp X k F N C S (pc, ls, .int x :: .int i :: .ref 5 :: st) (mw w) Q := Sp.iast hi rfl hj (by rw [← mw_a5] at kk; exact kk)
theorem Sp.pa7 {i x : Int32} {j x0 y0 : Nat} (hi : m_i k pc = some (.iastore, x0, y0)) (hj : m_ix i j 65) (kk : Sp X k F N C S (pc + 1, ls, st) (mw (w.sa 7 (upd (w.a 7) j x))) Q) : Sp X k F N C S (pc, ls, .int x :: .int i :: .ref 7 :: st) (mw w) Q := Sp.iast hi rfl hj (by rw [← mw_a7] at kk; exact kk)
theorem Sp.pa8 {i x : Int32} {j x0 y0 : Nat} (hi : m_i k pc = some (.iastore, x0, y0)) (hj : m_ix i j 65) (kk : Sp X k F N C S (pc + 1, ls, st) (mw (w.sa 8 (upd (w.a 8) j x))) Q) : Sp X k F N C S (pc, ls, .int x :: .int i :: .ref 8 :: st) (mw w) Q := Sp.iast hi rfl hj (by rw [← mw_a8] at kk; exact kk)
theorem Sp.pa11 {i x : Int32} {j x0 y0 : Nat} (hi : m_i k pc = some (.iastore, x0, y0)) (hj : m_ix i j 8) (kk : Sp X k F N C S (pc + 1, ls, st) (mw (w.sa 11 (upd (w.a 11) j x))) Q) : Sp X k F N C S (pc, ls, .int x :: .int i :: .ref 11 :: st) (mw w) Q := Sp.iast hi rfl hj (by rw [← mw_a11] at kk; exact kk)
theorem Sp.pa12 {i x : Int32} {j x0 y0 : Nat} (hi : m_i k pc = some (.bastore, x0, y0)) (hj : m_ix i j 4096) (h01 : x = 0 ∨ x = 1) (kk : Sp X k F N C S (pc + 1, ls, st) (mw (w.sa 12 (upd (w.a 12) j x))) Q) : Sp X k F N C S (pc, ls, .int x :: .int i :: .ref 12 :: st) (mw w) Q := Sp.zast hi rfl hj h01 (by rw [← mw_a12] at kk; exact kk)
theorem Sp.pa13 {i x : Int32} {j x0 y0 : Nat} (hi : m_i k pc = some (.iastore, x0, y0)) (hj : m_ix i j 32) (kk : Sp X k F N C S (pc + 1, ls, st) (mw (w.sa 13 (upd (w.a 13) j x))) Q) : Sp X k F N C S (pc, ls, .int x :: .int i :: .ref 13 :: st) (mw w) Q := Sp.iast hi rfl hj (by rw [← mw_a13] at kk; exact kk)
theorem Sp.pa14 {i x : Int32} {j x0 y0 : Nat} (hi : m_i k pc = some (.iastore, x0, y0)) (hj : m_ix i j 32) (kk : Sp X k F N C S (pc + 1, ls, st) (mw (w.sa 14 (upd (w.a 14) j x))) Q) : Sp X k F N C S (pc, ls, .int x :: .int i :: .ref 14 :: st) (mw w) Q := Sp.iast hi rfl hj (by rw [← mw_a14] at kk; exact kk)
theorem Sp.pa15 {i x : Int32} {j x0 y0 : Nat} (hi : m_i k pc = some (.iastore, x0, y0)) (hj : m_ix i j 32) (kk : Sp X k F N C S (pc + 1, ls, st) (mw (w.sa 15 (upd (w.a 15) j x))) Q) : Sp X k F N C S (pc, ls, .int x :: .int i :: .ref 15 :: st) (mw w) Q := Sp.iast hi rfl hj (by rw [← mw_a15] at kk; exact kk)
theorem Sp.pa16 {i x : Int32} {j x0 y0 : Nat} (hi : m_i k pc = some (.iastore, x0, y0)) (hj : m_ix i j 32) (kk : Sp X k F N C S (pc + 1, ls, st) (mw (w.sa 16 (upd (w.a 16) j x))) Q) : Sp X k F N C S (pc, ls, .int x :: .int i :: .ref 16 :: st) (mw w) Q := Sp.iast hi rfl hj (by rw [← mw_a16] at kk; exact kk)
theorem Sp.pa17 {i x : Int32} {j x0 y0 : Nat} (hi : m_i k pc = some (.iastore, x0, y0)) (hj : m_ix i j 32) (kk : Sp X k F N C S (pc + 1, ls, st) (mw (w.sa 17 (upd (w.a 17) j x))) Q) : Sp X k F N C S (pc, ls, .int x :: .int i :: .ref 17 :: st) (mw w) Q := Sp.iast hi rfl hj (by rw [← mw_a17] at kk; exact kk)
theorem Sp.pa18 {i x : Int32} {j x0 y0 : Nat} (hi : m_i k pc = some (.iastore, x0, y0)) (hj : m_ix i j 32) (kk : Sp X k F N C S (pc + 1, ls, st) (mw (w.sa 18 (upd (w.a 18) j x))) Q) : Sp X k F N C S (pc, ls, .int x :: .int i :: .ref 18 :: st) (mw w) Q := Sp.iast hi rfl hj (by rw [← mw_a18] at kk; exact kk)
theorem Sp.pa19 {i x : Int32} {j x0 y0 : Nat} (hi : m_i k pc = some (.iastore, x0, y0)) (hj : m_ix i j 2080) (kk : Sp X k F N C S (pc + 1, ls, st) (mw (w.sa 19 (upd (w.a 19) j x))) Q) : Sp X k F N C S (pc, ls, .int x :: .int i :: .ref 19 :: st) (mw w) Q := Sp.iast hi rfl hj (by rw [← mw_a19] at kk; exact kk)
theorem Sp.pa20 {i x : Int32} {j x0 y0 : Nat} (hi : m_i k pc = some (.bastore, x0, y0)) (hj : m_ix i j 32) (h01 : x = 0 ∨ x = 1) (kk : Sp X k F N C S (pc + 1, ls, st) (mw (w.sa 20 (upd (w.a 20) j x))) Q) : Sp X k F N C S (pc, ls, .int x :: .int i :: .ref 20 :: st) (mw w) Q := Sp.zast hi rfl hj h01 (by rw [← mw_a20] at kk; exact kk)
theorem Sp.pa21 {i x : Int32} {j x0 y0 : Nat} (hi : m_i k pc = some (.iastore, x0, y0)) (hj : m_ix i j 520) (kk : Sp X k F N C S (pc + 1, ls, st) (mw (w.sa 21 (upd (w.a 21) j x))) Q) : Sp X k F N C S (pc, ls, .int x :: .int i :: .ref 21 :: st) (mw w) Q := Sp.iast hi rfl hj (by rw [← mw_a21] at kk; exact kk)
theorem Sp.po {x : Int64} {i : Int32} {x0 y0 : Nat} (hi : m_i k pc = some (.lastore, x0, y0)) (hj : m_ix i 0 1) (kk : Sp X k F N C S (pc + 1, ls, st) (mw (w.so (vp_updL w.o 0 x))) Q) : Sp X k F N C S (pc, ls, .long x :: .int i :: .ref 22 :: st) (mw w) Q := Sp.last hi rfl hj (by rw [← mw_o] at kk; exact kk)
theorem Sp.th {ik q : Nat} (hi : m_i k pc = some (.new ik, q, 1)) (hF1 : 6 ≤ F) (hN1 : (st.map fun v => v.category).sum + 82 ≤ N) (hC1 : 1 ≤ C) (hS1 : 6 ≤ S) (hh : m_h k = []) (hx : 23 ≤ w.nx) (hQ : Q (.threw q) (mw (w.mk none 6))) : Sp X k F N C S (pc, ls, st) (mw w) Q := Sp.throw hi hF1 hN1 hC1 hS1 hh (by rw [mw_new _ _ _ hx]; exact hQ)
theorem m_ix_of {x : Int32} {j n : Nat} (h : x = nI j) (h1 : j < n) (h2 : n ≤ 100000) : m_ix x j n := by
  subst h
  exact ⟨nI_pos (by omega), nI_clamp (by omega), h1⟩
theorem Sp.tsw {dflt lo hi0 off : Int} {offs : Array Int} {x : Int32} {a b tgt : Nat} {M : mM} (hi : m_i k pc = some (.tableswitch dflt lo hi0 offs, a, b)) (h1 : ¬ x.toInt < lo) (h2 : ¬ hi0 < x.toInt) (ho : offs[(x.toInt - lo).toNat]? = some off) (ht : (pc : Int) + off = (tgt : Int)) (kk : Sp X k F N C S (tgt, ls, st) M Q) : Sp X k F N C S (pc, ls, .int x :: st) M Q := by
  intro p e R s m args below meth c H locs cells slots mc ms la hC hF hN hc hs hmc hms hR hl hv
  exact lv_tableIn hC.1 hC.2.1 (m_ok hi).1 h1 h2 ho ht (kk p e R s m args below meth c H locs cells slots mc ms la hC hF hN hc hs hmc hms hR hl hv)
end WR
end
section
/-! Int32 by its bits (a family pasted from kit/laws/BITS.to-paste.lean.txt, as it bids), and rows of mine on them. -/
def bt (x : Int32) (i : Nat) : Bool := x.toBitVec.getLsbD i
theorem b_ext {x y : Int32} (h : ∀ i, i < 32 → bt x i = bt y i) : x = y := Int32.toBitVec_inj.mp (BitVec.eq_of_getLsbD_eq (fun i hi => h i hi))
theorem b_or (x y : Int32) (i : Nat) : bt (x ||| y) i = (bt x i || bt y i) := by unfold bt; rw [Int32.toBitVec_or, BitVec.getLsbD_or]
theorem b_and (x y : Int32) (i : Nat) : bt (x &&& y) i = (bt x i && bt y i) := by unfold bt; rw [Int32.toBitVec_and, BitVec.getLsbD_and]
theorem b_xor (x y : Int32) (i : Nat) : bt (x ^^^ y) i = (bt x i ^^ bt y i) := by unfold bt; rw [Int32.toBitVec_xor, BitVec.getLsbD_xor]
theorem b_big {x : Int32} {i : Nat} (h : 32 ≤ i) : bt x i = false := BitVec.getLsbD_of_ge _ _ h
theorem b_255 (i : Nat) : bt 255 i = decide (i < 8) := by
  rcases Nat.lt_or_ge i 32 with h | h
  · exact (by decide +kernel : ∀ i, i < 32 → bt 255 i = decide (i < 8)) i h
  · rw [b_big h, decide_eq_false (by omega)]
theorem b_65535 (i : Nat) : bt 65535 i = decide (i < 16) := by
  rcases Nat.lt_or_ge i 32 with h | h
  · exact (by decide +kernel : ∀ i, i < 32 → bt 65535 i = decide (i < 16)) i h
  · rw [b_big h, decide_eq_false (by omega)]
theorem b_m1 : ∀ i, i < 32 → bt (-1) i = true := by decide +kernel
theorem b_0 (i : Nat) : bt 0 i = false := BitVec.getLsbD_zero
theorem s_l : ∀ n, n < 32 → ((nI n &&& 31).toBitVec.smod 32).toNat = n := by decide +kernel
theorem s_u : ∀ n, n < 32 → (((nI n).toUInt32 &&& Int32.toUInt32 31).toBitVec % 32).toNat = n := by decide +kernel
theorem b_shl (n : Nat) (hn : n < 32) (x : Int32) {i : Nat} (hi : i < 32) : bt (x <<< (nI n &&& 31)) i = (decide (n ≤ i) && bt x (i - n)) := by
  unfold bt
  rw [Int32.toBitVec_shiftLeft]
  show (x.toBitVec <<< ((nI n &&& 31).toBitVec.smod 32).toNat).getLsbD i = _
  rw [s_l n hn, BitVec.getLsbD_shiftLeft]
  rcases Nat.lt_or_ge i n with h | h
  · simp [h, Nat.not_le.mpr h]
  · simp [hi, h, Nat.not_lt.mpr h]
theorem b_ushr (n : Nat) (hn : n < 32) (x : Int32) (i : Nat) : bt ((x.toUInt32 >>> ((nI n).toUInt32 &&& Int32.toUInt32 31)).toInt32) i = bt x (n + i) := by
  show (x.toUInt32 >>> ((nI n).toUInt32 &&& Int32.toUInt32 31)).toBitVec.getLsbD i = x.toUInt32.toBitVec.getLsbD (n + i)
  rw [UInt32.toBitVec_shiftRight]
  show (x.toUInt32.toBitVec >>> (((nI n).toUInt32 &&& Int32.toUInt32 31).toBitVec % 32).toNat).getLsbD i = _
  rw [s_u n hn, BitVec.getLsbD_ushiftRight]
theorem b_sshr (n : Nat) (hn : n < 32) (x : Int32) {i : Nat} (hi : i < 32) : bt (x >>> (nI n &&& 31)) i = if n + i < 32 then bt x (n + i) else bt x 31 := by
  unfold bt
  rw [Int32.toBitVec_shiftRight]
  show (x.toBitVec.sshiftRight ((nI n &&& 31).toBitVec.smod 32).toNat).getLsbD i = _
  rw [s_l n hn, BitVec.getLsbD_sshiftRight, BitVec.msb_eq_getLsbD_last]
  simp [hi]
/-! mine -/
def m_b2 (b : Bool) : Int32 := if b = true then 1 else 0
theorem m_b2_01 (b : Bool) : m_b2 b = 0 ∨ m_b2 b = 1 := by cases b <;> simp [m_b2]
theorem m_b2_0 {b : Bool} : m_b2 b = 0 ↔ b = false := by cases b <;> decide
theorem m_nat {x : Int32} (h : ¬ x < 0) : x = nI x.toNatClampNeg := by
  apply Int32.toInt_inj.mp
  have h1 : 0 ≤ x.toInt := by
    have : ¬ x.toInt < (0 : Int32).toInt := fun q => h (Int32.lt_iff_toInt_lt.mpr q)
    rw [Int32.toInt_zero] at this
    omega
  have h2 : x.toInt < 2 ^ 31 := Int32.toInt_lt x
  have h3 : (x.toNatClampNeg : Int) = x.toInt := by
    show ((x.toInt.toNat : Nat) : Int) = x.toInt
    omega
  rw [nI_toInt (by omega), h3]
theorem nI_lt' {a b : Nat} (ha : a < 2 ^ 31) (hb : b < 2 ^ 31) : nI a < nI b ↔ a < b := by
  rw [Int32.lt_iff_toInt_lt, nI_toInt ha, nI_toInt hb]; omega
theorem nI_le' {a b : Nat} (ha : a < 2 ^ 31) (hb : b < 2 ^ 31) : nI a ≤ nI b ↔ a ≤ b := by
  rw [Int32.le_iff_toInt_le, nI_toInt ha, nI_toInt hb]; omega
theorem nI_inj {a b : Nat} (ha : a < 2 ^ 31) (hb : b < 2 ^ 31) : nI a = nI b ↔ a = b := by
  constructor
  · intro h
    have := congrArg Int32.toInt h
    rw [nI_toInt ha, nI_toInt hb] at this
    omega
  · intro h; rw [h]
/-- a bit, as the program asks for it -/
theorem m_bit (x : Int32) {n : Nat} (hn : n < 32) : (x >>> (nI n &&& 31)) &&& 1 = 0 ↔ bt x n = false := by
  have h1 : ∀ i, i < 32 → bt 1 i = decide (i = 0) := by decide +kernel
  constructor
  · intro h
    have h2 := congrArg (fun y => bt y 0) h
    simp only [b_and, b_0, b_sshr n hn x (i := 0) (by omega), h1 0 (by omega)] at h2
    simpa [hn] using h2
  · intro h
    refine b_ext fun i hi => ?_
    rw [b_and, b_0, b_sshr n hn x hi, h1 i hi]
    by_cases e : i = 0
    · subst e; simp [hn, h]
    · simp [e]
theorem b_one {n : Nat} (hn : n < 32) {i : Nat} (hi : i < 32) : bt ((1 : Int32) <<< (nI n &&& 31)) i = decide (i = n) := by
  rw [b_shl n hn 1 hi]
  have h1 : ∀ i, i < 32 → bt 1 i = decide (i = 0) := by decide +kernel
  rw [h1 (i - n) (by omega)]
  by_cases e : i = n
  · subst e; simp
  · by_cases h : n ≤ i
    · simp [h, e]; omega
    · simp [h, e]
theorem b_notone {n : Nat} (hn : n < 32) {i : Nat} (hi : i < 32) : bt (((1 : Int32) <<< (nI n &&& 31)) ^^^ (-1)) i = !decide (i = n) := by
  rw [b_xor, b_one hn hi, b_m1 i hi]
  cases decide (i = n) <;> rfl
theorem mWd.sa_sa (w : mWd) (i : Nat) (f g : Nat → Int32) : (w.sa i f).sa i g = w.sa i g := by
  unfold mWd.sa
  have : va_up (va_up w.2.1 i f) i g = va_up w.2.1 i g := by
    funext j
    by_cases h : j = i <;> simp [va_up, h]
  rw [this]
theorem mWd.sf_sf (w : mWd) (i : Nat) (x y : Int32) : (w.sf i x).sf i y = w.sf i y := by
  unfold mWd.sf
  have : va_up (va_up w.1 i x) i y = va_up w.1 i y := by
    funext j
    by_cases h : j = i <;> simp [va_up, h]
  rw [this]
section WB
variable {X : mX} {k F N C S : Nat} {pc : Nat} {ls : List (Nat × Value)} {st : List Value} {M : mM} {Q : Outcome → mM → Prop}
theorem Sp.wd {f : mF} {w w' : mWd} (h : w = w') (kk : Sp X k F N C S f (mw w') Q) : Sp X k F N C S f (mw w) Q := h ▸ kk
theorem Sp.ifb {off : Int} {v : Bool} {a b : Nat} (hi : m_i k pc = some (.ifCond .eq off, a, b)) (k1 : v = false → Sp X k F N C S (a, ls, st) M Q) (k2 : v = true → Sp X k F N C S (pc + 3, ls, st) M Q) : Sp X k F N C S (pc, ls, .int (m_b2 v) :: st) M Q :=
  Sp.if hi (fun h => k1 (m_b2_0.mp h)) (fun h => k2 (by cases v; exact absurd rfl h; rfl))
theorem Sp.ifbn {off : Int} {v : Bool} {a b : Nat} (hi : m_i k pc = some (.ifCond .ne off, a, b)) (k1 : v = true → Sp X k F N C S (a, ls, st) M Q) (k2 : v = false → Sp X k F N C S (pc + 3, ls, st) M Q) : Sp X k F N C S (pc, ls, .int (m_b2 v) :: st) M Q :=
  Sp.if hi (fun h => k1 (by cases v; exact absurd rfl h; rfl)) (fun h => k2 (by cases v; rfl; exact absurd (by decide : ¬ m_b2 true = 0) h))
theorem Sp.fr {f f' : mF} (h : f = f') (kk : Sp X k F N C S f' M Q) : Sp X k F N C S f M Q := h ▸ kk
end WB
end
section
/-! The network's methods. Rows laid by wip/gen/net.py. -/
theorem n_inSet {X : mX} {C S : Nat} {Q : Outcome → mM → Prop} {x : Int32} {n : Nat} {M : mM} (hn : n < 32) (hq : Q (.returned (some (.int (m_b2 (bt x n))))) M) : Sp X 44 0 0 C S (0, [(0, .int (x)), (1, .int (nI n))], []) M Q := by
  refine Sp.go 5 (g := (5, [(0, .int (x)), (1, .int (nI n))], [.int ((x >>> ((nI n) &&& 31)) &&& 1)])) rfl ?_
  refine Sp.if rfl (fun (h1 : ((x >>> ((nI n) &&& 31)) &&& 1 : Int32) = (0 : Int32)) => ?_) (fun (h1 : ¬ (((x >>> ((nI n) &&& 31)) &&& 1 : Int32) = (0 : Int32))) => ?_)
  · skip
    refine Sp.go 1 (g := (13, [(0, .int (x)), (1, .int (nI n))], [.int 0])) rfl ?_
    refine Sp.iret rfl (Or.inr ⟨rfl, Or.inl rfl⟩) ?_
    rw [(m_bit x hn).mp h1] at hq; exact hq
  · skip
    refine Sp.go 2 (g := (13, [(0, .int (x)), (1, .int (nI n))], [.int 1])) rfl ?_
    refine Sp.iret rfl (Or.inr ⟨rfl, Or.inr rfl⟩) ?_
    rw [(by cases hb : bt x n with | true => rfl | false => exact absurd ((m_bit x hn).mpr hb) h1 : bt x n = true)] at hq; exact hq
theorem n_cell {X : mX} {C S : Nat} {Q : Outcome → mM → Prop} {n t : Int32} {M : mM} (hq : Q (.returned (some (.int (t * 8 + n)))) M) : Sp X 1 0 0 C S (0, [(0, .int (n)), (1, .int (t))], []) M Q := by
  refine Sp.go 5 (g := (6, [(0, .int (n)), (1, .int (t))], [.int ((t * 8) + n)])) rfl ?_
  refine Sp.iret rfl (Or.inl rfl) ?_
  exact hq
/-- is there a node x, by the set of the nodes -/
def n_is (made : Int32) (x : Int32) : Bool := !decide (x < 0) && (decide (x < 8) && bt made x.toNatClampNeg)
theorem n_is_lt {x : Int32} (h0 : ¬ x < 0) (h : ¬ (8 : Int32) ≤ x) : x.toNatClampNeg < 8 := by
  have h1 := m_nat h0
  rw [h1] at h
  have h2 : x.toNatClampNeg < 2 ^ 31 := by
    have := Int32.toInt_lt x
    show x.toInt.toNat < 2 ^ 31
    omega
  have h3 : ¬ nI 8 ≤ nI x.toNatClampNeg := h
  rw [nI_le' (by omega) h2] at h3
  omega
theorem n_isNode {X : mX} {C S : Nat} {Q : Outcome → mM → Prop} {w : mWd} {x : Int32} (hq : Q (.returned (some (.int (m_b2 (n_is (w.f 2) x))))) (mw w)) : Sp X 2 1 21 C S (0, [(0, .ref 1), (1, .int (x))], []) (mw w) Q := by
  by_cases h0 : x < 0
  · rw [show n_is (w.f 2) x = false by simp [n_is, h0]] at hq
    refine Sp.go 1 (g := (1, [(0, .ref 1), (1, .int x)], [.int x])) rfl ?_
    refine Sp.if rfl (fun _ => ?_) (fun h => absurd h0 h)
    refine Sp.go 1 (g := (26, [(0, .ref 1), (1, .int x)], [.int 0])) rfl ?_
    exact Sp.iret rfl (Or.inr ⟨rfl, Or.inl rfl⟩) hq
  refine Sp.go 1 (g := (1, [(0, .ref 1), (1, .int x)], [.int x])) rfl ?_
  refine Sp.if rfl (fun h => absurd h h0) (fun _ => ?_)
  refine Sp.go 2 (g := (7, [(0, .ref 1), (1, .int x)], [.int 8, .int x])) rfl ?_
  refine Sp.icmp rfl (fun h8 => ?_) (fun h8 => ?_)
  · have h8' : (8 : Int32) ≤ x := h8
    rw [show n_is (w.f 2) x = false by simp [n_is, h0, show ¬ x < 8 from k2_nlt h8']] at hq
    refine Sp.go 1 (g := (26, [(0, .ref 1), (1, .int x)], [.int 0])) rfl ?_
    exact Sp.iret rfl (Or.inr ⟨rfl, Or.inl rfl⟩) hq
  have h8' : ¬ (8 : Int32) ≤ x := h8
  have hlt := n_is_lt h0 h8'
  rw [show n_is (w.f 2) x = bt (w.f 2) x.toNatClampNeg by simp [n_is, h0, show x < 8 from k2_lt h8']] at hq
  have hx := m_nat h0
  generalize x.toNatClampNeg = n at hx hlt hq
  subst hx
  refine Sp.go 1 (g := (11, [(0, .ref 1), (1, .int (nI n))], [.ref 1])) rfl ?_
  refine Sp.get (v := .int (w.f 2)) rfl rfl rfl ?_
  refine Sp.go 1 (g := (15, [(0, .ref 1), (1, .int (nI n))], [.int (nI n), .int (w.f 2)])) rfl ?_
  refine Sp.sr (some (.int (m_b2 (bt (w.f 2) n)))) (mw (w)) (k' := 44) (F' := 0) (N' := 0) (C' := 0) (S' := 0) (vs := [.int (w.f 2), .int (nI n)]) (st := []) rfl (by decide) rfl (Nat.le_of_ble_eq_true rfl) (Nat.le_of_ble_eq_true rfl) (by decide) (by decide) (Nat.zero_le _) (Nat.zero_le _) (fun Q' h => n_inSet (by omega) h) ?_
  refine Sp.ifb rfl (fun h1 => ?_) (fun h1 => ?_)
  · skip
    refine Sp.go 1 (g := (26, [(0, .ref 1), (1, .int (nI n))], [.int 0])) rfl ?_
    refine Sp.iret rfl (Or.inr ⟨rfl, Or.inl rfl⟩) ?_
    first | (rw [‹bt (w.f 2) n = false›] at hq; exact hq) | (rw [‹bt (w.f 2) n = true›] at hq; exact hq)
  · skip
    refine Sp.go 2 (g := (26, [(0, .ref 1), (1, .int (nI n))], [.int 1])) rfl ?_
    refine Sp.iret rfl (Or.inr ⟨rfl, Or.inr rfl⟩) ?_
    first | (rw [‹bt (w.f 2) n = false›] at hq; exact hq) | (rw [‹bt (w.f 2) n = true›] at hq; exact hq)
def n_pair (made : Int32) (x y : Int32) : Bool := n_is made x && (n_is made y && !decide (x = y))
theorem n_isPair {X : mX} {C S : Nat} {Q : Outcome → mM → Prop} {w : mWd} {x y : Int32} (hq : Q (.returned (some (.int (m_b2 (n_pair (w.f 2) x y))))) (mw w)) : Sp X 3 2 42 C S (0, [(0, .ref 1), (1, .int (x)), (2, .int (y))], []) (mw w) Q := by
  refine Sp.go 2 (g := (2, [(0, .ref 1), (1, .int (x)), (2, .int (y))], [.int (x), .ref 1])) rfl ?_
  refine Sp.vr (some (.int (m_b2 (n_is (w.f 2) x)))) (mw (w)) (k' := 2) (F' := 1) (N' := 21) (C' := 0) (S' := 0) (vs := [.int (x)]) (st := []) rfl rfl rfl rfl (Nat.le_of_ble_eq_true rfl) (Nat.le_of_ble_eq_true rfl) (by decide) (by decide) (Nat.zero_le _) (Nat.zero_le _) (fun Q' h => n_isNode h) ?_
  refine Sp.ifb rfl (fun h1 => ?_) (fun h1 => ?_)
  · skip
    refine Sp.go 1 (g := (26, [(0, .ref 1), (1, .int (x)), (2, .int (y))], [.int 0])) rfl ?_
    refine Sp.iret rfl (Or.inr ⟨rfl, Or.inl rfl⟩) ?_
    rw [show n_pair (w.f 2) x y = false by simp [n_pair, h1]] at hq; exact hq
  · skip
    refine Sp.go 2 (g := (10, [(0, .ref 1), (1, .int (x)), (2, .int (y))], [.int (y), .ref 1])) rfl ?_
    refine Sp.vr (some (.int (m_b2 (n_is (w.f 2) y)))) (mw (w)) (k' := 2) (F' := 1) (N' := 21) (C' := 0) (S' := 0) (vs := [.int (y)]) (st := []) rfl rfl rfl rfl (Nat.le_of_ble_eq_true rfl) (Nat.le_of_ble_eq_true rfl) (by decide) (by decide) (Nat.zero_le _) (Nat.zero_le _) (fun Q' h => n_isNode h) ?_
    refine Sp.ifb rfl (fun h2 => ?_) (fun h2 => ?_)
    · skip
      refine Sp.go 1 (g := (26, [(0, .ref 1), (1, .int (x)), (2, .int (y))], [.int 0])) rfl ?_
      refine Sp.iret rfl (Or.inr ⟨rfl, Or.inl rfl⟩) ?_
      rw [show n_pair (w.f 2) x y = false by simp [n_pair, h2]] at hq; exact hq
    · skip
      refine Sp.go 2 (g := (18, [(0, .ref 1), (1, .int (x)), (2, .int (y))], [.int (y), .int (x)])) rfl ?_
      refine Sp.icmp rfl (fun (h3 : (x : Int32) = (y : Int32)) => ?_) (fun (h3 : ¬ ((x : Int32) = (y : Int32))) => ?_)
      · skip
        refine Sp.go 1 (g := (26, [(0, .ref 1), (1, .int (x)), (2, .int (y))], [.int 0])) rfl ?_
        refine Sp.iret rfl (Or.inr ⟨rfl, Or.inl rfl⟩) ?_
        rw [show n_pair (w.f 2) x y = false by simp [n_pair, show x = y from h3]] at hq; exact hq
      · skip
        refine Sp.go 2 (g := (26, [(0, .ref 1), (1, .int (x)), (2, .int (y))], [.int 1])) rfl ?_
        refine Sp.iret rfl (Or.inr ⟨rfl, Or.inr rfl⟩) ?_
        rw [show n_pair (w.f 2) x y = true by simp [n_pair, h1, h2, show ¬ x = y from h3]] at hq; exact hq
theorem n_makeNode {X : mX} {C S : Nat} {Q : Outcome → mM → Prop} {w : mWd} {n : Nat} {c : Int32} (hn : n < 8) (hq : Q (.returned none) (mw (((w.sa 2 (upd (w.a 2) n c)).sf 2 (w.f 2 ||| ((1 : Int32) <<< (nI n &&& 31)))).sf 0 (w.f 0 + 1)))) : Sp X 4 0 0 C S (0, [(0, .ref 1), (1, .int (nI n)), (2, .int (c))], []) (mw w) Q := by
  refine Sp.go 1 (g := (1, [(0, .ref 1), (1, .int (nI n)), (2, .int (c))], [.ref 1])) rfl ?_
  refine Sp.get (v := .ref 2) rfl rfl rfl ?_
  refine Sp.go 2 (g := (6, [(0, .ref 1), (1, .int (nI n)), (2, .int (c))], [.int (c), .int (nI n), .ref 2])) rfl ?_
  refine Sp.pa2 (j := n) rfl (m_ix_of (by simp only [nI, Int32.ofNat_add, Int32.ofNat_mul] <;> rfl) (by omega) (by omega)) ?_
  refine Sp.go 2 (g := (9, [(0, .ref 1), (1, .int (nI n)), (2, .int (c))], [.ref 1, .ref 1])) rfl ?_
  refine Sp.get (v := .int (w.f 2)) rfl rfl rfl ?_
  refine Sp.go 4 (g := (16, [(0, .ref 1), (1, .int (nI n)), (2, .int (c))], [.int ((w.f 2) ||| ((1 : Int32) <<< ((nI n) &&& 31))), .ref 1])) rfl ?_
  refine Sp.pf2 rfl ?_
  refine Sp.go 2 (g := (21, [(0, .ref 1), (1, .int (nI n)), (2, .int (c))], [.ref 1, .ref 1])) rfl ?_
  refine Sp.get (v := .int (w.f 0)) rfl rfl rfl ?_
  refine Sp.go 2 (g := (26, [(0, .ref 1), (1, .int (nI n)), (2, .int (c))], [.int ((w.f 0) + 1), .ref 1])) rfl ?_
  refine Sp.pf0 rfl ?_
  refine Sp.vret rfl rfl ?_
  exact hq
theorem n_usersOfLink {X : mX} {C S : Nat} {Q : Outcome → mM → Prop} {w : mWd} {a b t : Nat} (ha : a < 8) (hb : b < 8) (ht : t < 64) (hq : Q (.returned (some (.int (m_b2 (bt (w.a 4 (t * 8 + a)) b))))) (mw w)) : Sp X 8 1 21 C S (0, [(0, .ref 1), (1, .int (nI a)), (2, .int (nI b)), (3, .int (nI t))], []) (mw w) Q := by
  refine Sp.go 1 (g := (1, [(0, .ref 1), (1, .int (nI a)), (2, .int (nI b)), (3, .int (nI t))], [.ref 1])) rfl ?_
  refine Sp.get (v := .ref 4) rfl rfl rfl ?_
  refine Sp.go 2 (g := (6, [(0, .ref 1), (1, .int (nI a)), (2, .int (nI b)), (3, .int (nI t))], [.int (nI t), .int (nI a), .ref 4])) rfl ?_
  refine Sp.sr (some (.int ((nI t) * 8 + (nI a)))) (mw (w)) (k' := 1) (F' := 0) (N' := 0) (C' := 0) (S' := 0) (vs := [.int (nI a), .int (nI t)]) (st := [.ref 4]) rfl (by decide) rfl (Nat.le_of_ble_eq_true rfl) (Nat.le_of_ble_eq_true rfl) (by decide) (by decide) (Nat.zero_le _) (Nat.zero_le _) (fun Q' h => n_cell h) ?_
  refine Sp.iald (f := w.a 4) (j := t * 8 + a) rfl rfl (m_ix_of (by simp only [nI, Int32.ofNat_add, Int32.ofNat_mul] <;> rfl) (by omega) (by omega)) ?_
  refine Sp.go 1 (g := (11, [(0, .ref 1), (1, .int (nI a)), (2, .int (nI b)), (3, .int (nI t))], [.int (nI b), .int (w.a 4 (t * 8 + a))])) rfl ?_
  refine Sp.sr (some (.int (m_b2 (bt (w.a 4 (t * 8 + a)) b)))) (mw (w)) (k' := 44) (F' := 0) (N' := 0) (C' := 0) (S' := 0) (vs := [.int (w.a 4 (t * 8 + a)), .int (nI b)]) (st := []) rfl (by decide) rfl (Nat.le_of_ble_eq_true rfl) (Nat.le_of_ble_eq_true rfl) (by decide) (by decide) (Nat.zero_le _) (Nat.zero_le _) (fun Q' h => n_inSet (by omega) h) ?_
  refine Sp.ifb rfl (fun h1 => ?_) (fun h1 => ?_)
  · skip
    refine Sp.go 1 (g := (22, [(0, .ref 1), (1, .int (nI a)), (2, .int (nI b)), (3, .int (nI t))], [.int 0])) rfl ?_
    refine Sp.iret rfl (Or.inl rfl) ?_
    rw [h1] at hq; exact hq
  · skip
    refine Sp.go 2 (g := (22, [(0, .ref 1), (1, .int (nI a)), (2, .int (nI b)), (3, .int (nI t))], [.int 1])) rfl ?_
    refine Sp.iret rfl (Or.inl rfl) ?_
    rw [h1] at hq; exact hq
theorem n_usersOfPlaces {X : mX} {C S : Nat} {Q : Outcome → mM → Prop} {w : mWd} {n t : Nat} (hn : n < 8) (ht : t < 64) (hq : Q (.returned (some (.int (w.a 5 (t * 8 + n))))) (mw w)) : Sp X 9 1 21 C S (0, [(0, .ref 1), (1, .int (nI n)), (2, .int (nI t))], []) (mw w) Q := by
  refine Sp.go 1 (g := (1, [(0, .ref 1), (1, .int (nI n)), (2, .int (nI t))], [.ref 1])) rfl ?_
  refine Sp.get (v := .ref 5) rfl rfl rfl ?_
  refine Sp.go 2 (g := (6, [(0, .ref 1), (1, .int (nI n)), (2, .int (nI t))], [.int (nI t), .int (nI n), .ref 5])) rfl ?_
  refine Sp.sr (some (.int ((nI t) * 8 + (nI n)))) (mw (w)) (k' := 1) (F' := 0) (N' := 0) (C' := 0) (S' := 0) (vs := [.int (nI n), .int (nI t)]) (st := [.ref 5]) rfl (by decide) rfl (Nat.le_of_ble_eq_true rfl) (Nat.le_of_ble_eq_true rfl) (by decide) (by decide) (Nat.zero_le _) (Nat.zero_le _) (fun Q' h => n_cell h) ?_
  refine Sp.iald (f := w.a 5) (j := t * 8 + n) rfl rfl (m_ix_of (by simp only [nI, Int32.ofNat_add, Int32.ofNat_mul] <;> rfl) (by omega) (by omega)) ?_
  refine Sp.iret rfl (Or.inl rfl) ?_
  exact hq
theorem n_placesLeft {X : mX} {C S : Nat} {Q : Outcome → mM → Prop} {w : mWd} {n t : Nat} (hn : n < 8) (ht : t < 64) (hq : Q (.returned (some (.int (w.a 2 n - w.a 5 (t * 8 + n))))) (mw w)) : Sp X 10 1 21 C S (0, [(0, .ref 1), (1, .int (nI n)), (2, .int (nI t))], []) (mw w) Q := by
  refine Sp.go 1 (g := (1, [(0, .ref 1), (1, .int (nI n)), (2, .int (nI t))], [.ref 1])) rfl ?_
  refine Sp.get (v := .ref 2) rfl rfl rfl ?_
  refine Sp.go 1 (g := (5, [(0, .ref 1), (1, .int (nI n)), (2, .int (nI t))], [.int (nI n), .ref 2])) rfl ?_
  refine Sp.iald (f := w.a 2) (j := n) rfl rfl (m_ix_of (by simp only [nI, Int32.ofNat_add, Int32.ofNat_mul] <;> rfl) (by omega) (by omega)) ?_
  refine Sp.go 1 (g := (7, [(0, .ref 1), (1, .int (nI n)), (2, .int (nI t))], [.ref 1, .int (w.a 2 n)])) rfl ?_
  refine Sp.get (v := .ref 5) rfl rfl rfl ?_
  refine Sp.go 2 (g := (12, [(0, .ref 1), (1, .int (nI n)), (2, .int (nI t))], [.int (nI t), .int (nI n), .ref 5, .int (w.a 2 n)])) rfl ?_
  refine Sp.sr (some (.int ((nI t) * 8 + (nI n)))) (mw (w)) (k' := 1) (F' := 0) (N' := 0) (C' := 0) (S' := 0) (vs := [.int (nI n), .int (nI t)]) (st := [.ref 5, .int (w.a 2 n)]) rfl (by decide) rfl (Nat.le_of_ble_eq_true rfl) (Nat.le_of_ble_eq_true rfl) (by decide) (by decide) (Nat.zero_le _) (Nat.zero_le _) (fun Q' h => n_cell h) ?_
  refine Sp.iald (f := w.a 5) (j := t * 8 + n) rfl rfl (m_ix_of (by simp only [nI, Int32.ofNat_add, Int32.ofNat_mul] <;> rfl) (by omega) (by omega)) ?_
  refine Sp.go 1 (g := (17, [(0, .ref 1), (1, .int (nI n)), (2, .int (nI t))], [.int ((w.a 2 n) - (w.a 5 (t * 8 + n)))])) rfl ?_
  refine Sp.iret rfl (Or.inl rfl) ?_
  exact hq
/-- the nodes that can follow n at t, as a set -/
def n_on (op us st pl : Nat → Int32) (n t : Nat) : Int32 := if pl n ≤ st (t * 8 + n) then op (t * 8 + n) &&& (us (t * 8 + n) ^^^ -1) else (op (t * 8 + n) &&& (us (t * 8 + n) ^^^ -1)) ||| ((1 : Int32) <<< (nI n &&& 31))
theorem n_onward {X : mX} {C S : Nat} {Q : Outcome → mM → Prop} {w : mWd} {n t : Nat} (hn : n < 8) (ht : t < 64) (hq : Q (.returned (some (.int (n_on (w.a 3) (w.a 4) (w.a 5) (w.a 2) n t)))) (mw w)) : Sp X 11 1 21 C S (0, [(0, .ref 1), (1, .int (nI n)), (2, .int (nI t))], []) (mw w) Q := by
  refine Sp.go 2 (g := (2, [(0, .ref 1), (1, .int (nI n)), (2, .int (nI t))], [.int (nI t), .int (nI n)])) rfl ?_
  refine Sp.sr (some (.int ((nI t) * 8 + (nI n)))) (mw (w)) (k' := 1) (F' := 0) (N' := 0) (C' := 0) (S' := 0) (vs := [.int (nI n), .int (nI t)]) (st := []) rfl (by decide) rfl (Nat.le_of_ble_eq_true rfl) (Nat.le_of_ble_eq_true rfl) (by decide) (by decide) (Nat.zero_le _) (Nat.zero_le _) (fun Q' h => n_cell h) ?_
  refine Sp.go 2 (g := (7, [(3, .int ((nI t) * 8 + (nI n))), (0, .ref 1), (1, .int (nI n)), (2, .int (nI t))], [.ref 1])) rfl ?_
  refine Sp.get (v := .ref 3) rfl rfl rfl ?_
  refine Sp.go 1 (g := (11, [(3, .int ((nI t) * 8 + (nI n))), (0, .ref 1), (1, .int (nI n)), (2, .int (nI t))], [.int ((nI t) * 8 + (nI n)), .ref 3])) rfl ?_
  refine Sp.iald (f := w.a 3) (j := t * 8 + n) rfl rfl (m_ix_of (by simp only [nI, Int32.ofNat_add, Int32.ofNat_mul] <;> rfl) (by omega) (by omega)) ?_
  refine Sp.go 1 (g := (13, [(3, .int ((nI t) * 8 + (nI n))), (0, .ref 1), (1, .int (nI n)), (2, .int (nI t))], [.ref 1, .int (w.a 3 (t * 8 + n))])) rfl ?_
  refine Sp.get (v := .ref 4) rfl rfl rfl ?_
  refine Sp.go 1 (g := (17, [(3, .int ((nI t) * 8 + (nI n))), (0, .ref 1), (1, .int (nI n)), (2, .int (nI t))], [.int ((nI t) * 8 + (nI n)), .ref 4, .int (w.a 3 (t * 8 + n))])) rfl ?_
  refine Sp.iald (f := w.a 4) (j := t * 8 + n) rfl rfl (m_ix_of (by simp only [nI, Int32.ofNat_add, Int32.ofNat_mul] <;> rfl) (by omega) (by omega)) ?_
  refine Sp.go 5 (g := (24, [(4, .int ((w.a 3 (t * 8 + n)) &&& ((w.a 4 (t * 8 + n)) ^^^ (-1)))), (3, .int ((nI t) * 8 + (nI n))), (0, .ref 1), (1, .int (nI n)), (2, .int (nI t))], [.ref 1])) rfl ?_
  refine Sp.get (v := .ref 5) rfl rfl rfl ?_
  refine Sp.go 1 (g := (28, [(4, .int ((w.a 3 (t * 8 + n)) &&& ((w.a 4 (t * 8 + n)) ^^^ (-1)))), (3, .int ((nI t) * 8 + (nI n))), (0, .ref 1), (1, .int (nI n)), (2, .int (nI t))], [.int ((nI t) * 8 + (nI n)), .ref 5])) rfl ?_
  refine Sp.iald (f := w.a 5) (j := t * 8 + n) rfl rfl (m_ix_of (by simp only [nI, Int32.ofNat_add, Int32.ofNat_mul] <;> rfl) (by omega) (by omega)) ?_
  refine Sp.go 1 (g := (30, [(4, .int ((w.a 3 (t * 8 + n)) &&& ((w.a 4 (t * 8 + n)) ^^^ (-1)))), (3, .int ((nI t) * 8 + (nI n))), (0, .ref 1), (1, .int (nI n)), (2, .int (nI t))], [.ref 1, .int (w.a 5 (t * 8 + n))])) rfl ?_
  refine Sp.get (v := .ref 2) rfl rfl rfl ?_
  refine Sp.go 1 (g := (34, [(4, .int ((w.a 3 (t * 8 + n)) &&& ((w.a 4 (t * 8 + n)) ^^^ (-1)))), (3, .int ((nI t) * 8 + (nI n))), (0, .ref 1), (1, .int (nI n)), (2, .int (nI t))], [.int (nI n), .ref 2, .int (w.a 5 (t * 8 + n))])) rfl ?_
  refine Sp.iald (f := w.a 2) (j := n) rfl rfl (m_ix_of (by simp only [nI, Int32.ofNat_add, Int32.ofNat_mul] <;> rfl) (by omega) (by omega)) ?_
  refine Sp.icmp rfl (fun (h1 : (w.a 2 n : Int32) ≤ (w.a 5 (t * 8 + n) : Int32)) => ?_) (fun (h1 : ¬ ((w.a 2 n : Int32) ≤ (w.a 5 (t * 8 + n) : Int32))) => ?_)
  · skip
    refine Sp.go 1 (g := (49, [(4, .int ((w.a 3 (t * 8 + n)) &&& ((w.a 4 (t * 8 + n)) ^^^ (-1)))), (3, .int ((nI t) * 8 + (nI n))), (0, .ref 1), (1, .int (nI n)), (2, .int (nI t))], [.int ((w.a 3 (t * 8 + n)) &&& ((w.a 4 (t * 8 + n)) ^^^ (-1)))])) rfl ?_
    refine Sp.iret rfl (Or.inl rfl) ?_
    unfold n_on at hq; rw [if_pos h1] at hq; exact hq
  · skip
    refine Sp.go 6 (g := (49, [(4, .int ((w.a 3 (t * 8 + n)) &&& ((w.a 4 (t * 8 + n)) ^^^ (-1)))), (3, .int ((nI t) * 8 + (nI n))), (0, .ref 1), (1, .int (nI n)), (2, .int (nI t))], [.int (((w.a 3 (t * 8 + n)) &&& ((w.a 4 (t * 8 + n)) ^^^ (-1))) ||| ((1 : Int32) <<< ((nI n) &&& 31)))])) rfl ?_
    refine Sp.iret rfl (Or.inl rfl) ?_
    unfold n_on at hq; rw [if_neg h1] at hq; exact hq
def n_tk5 (st : Nat → Int32) (n m t : Nat) : Nat → Int32 := if n = m then upd st (t * 8 + n) (st (t * 8 + n) + 1) else st
def n_tk4 (us : Nat → Int32) (n m t : Nat) : Nat → Int32 := if n = m then us else upd us (t * 8 + n) (us (t * 8 + n) ||| ((1 : Int32) <<< (nI m &&& 31)))
def n_gb5 (st : Nat → Int32) (n m t : Nat) : Nat → Int32 := if n = m then upd st (t * 8 + n) (st (t * 8 + n) - 1) else st
def n_gb4 (us : Nat → Int32) (n m t : Nat) : Nat → Int32 := if n = m then us else upd us (t * 8 + n) (us (t * 8 + n) &&& (((1 : Int32) <<< (nI m &&& 31)) ^^^ -1))
theorem mWd.sa_self (w : mWd) (i : Nat) : w.sa i (w.a i) = w := by
  unfold mWd.sa mWd.a
  have : va_up w.2.1 i (w.2.1 i) = w.2.1 := by
    funext j
    by_cases h : j = i
    · subst h; simp [va_up]
    · simp [va_up, h]
  rw [this]
theorem n_take {X : mX} {C S : Nat} {Q : Outcome → mM → Prop} {w : mWd} {n m t : Nat} (hn : n < 8) (hm : m < 8) (ht : t < 64) (hq : Q (.returned none) (mw ((w.sa 4 (n_tk4 (w.a 4) n m t)).sa 5 (n_tk5 (w.a 5) n m t)))) : Sp X 12 1 21 C S (0, [(0, .ref 1), (1, .int (nI n)), (2, .int (nI m)), (3, .int (nI t))], []) (mw w) Q := by
  refine Sp.go 2 (g := (2, [(0, .ref 1), (1, .int (nI n)), (2, .int (nI m)), (3, .int (nI t))], [.int (nI m), .int (nI n)])) rfl ?_
  refine Sp.icmp rfl (fun (h1 : ¬ (nI n : Int32) = (nI m : Int32)) => ?_) (fun (h1 : ¬ (¬ (nI n : Int32) = (nI m : Int32))) => ?_)
  · skip
    refine Sp.go 1 (g := (23, [(0, .ref 1), (1, .int (nI n)), (2, .int (nI m)), (3, .int (nI t))], [.ref 1])) rfl ?_
    refine Sp.get (v := .ref 4) rfl rfl rfl ?_
    refine Sp.go 2 (g := (28, [(0, .ref 1), (1, .int (nI n)), (2, .int (nI m)), (3, .int (nI t))], [.int (nI t), .int (nI n), .ref 4])) rfl ?_
    refine Sp.sr (some (.int ((nI t) * 8 + (nI n)))) (mw (w)) (k' := 1) (F' := 0) (N' := 0) (C' := 0) (S' := 0) (vs := [.int (nI n), .int (nI t)]) (st := [.ref 4]) rfl (by decide) rfl (Nat.le_of_ble_eq_true rfl) (Nat.le_of_ble_eq_true rfl) (by decide) (by decide) (Nat.zero_le _) (Nat.zero_le _) (fun Q' h => n_cell h) ?_
    refine Sp.go 1 (g := (32, [(0, .ref 1), (1, .int (nI n)), (2, .int (nI m)), (3, .int (nI t))], [.int ((nI t) * 8 + (nI n)), .ref 4, .int ((nI t) * 8 + (nI n)), .ref 4])) rfl ?_
    refine Sp.iald (f := w.a 4) (j := t * 8 + n) rfl rfl (m_ix_of (by simp only [nI, Int32.ofNat_add, Int32.ofNat_mul] <;> rfl) (by omega) (by omega)) ?_
    refine Sp.go 4 (g := (37, [(0, .ref 1), (1, .int (nI n)), (2, .int (nI m)), (3, .int (nI t))], [.int ((w.a 4 (t * 8 + n)) ||| ((1 : Int32) <<< ((nI m) &&& 31))), .int ((nI t) * 8 + (nI n)), .ref 4])) rfl ?_
    refine Sp.pa4 (j := t * 8 + n) rfl (m_ix_of (by simp only [nI, Int32.ofNat_add, Int32.ofNat_mul] <;> rfl) (by omega) (by omega)) ?_
    refine Sp.vret rfl rfl ?_
    have hne : ¬ n = m := fun e => h1 (by rw [e]); rw [show n_tk4 (w.a 4) n m t = upd (w.a 4) (t * 8 + n) (w.a 4 (t * 8 + n) ||| ((1 : Int32) <<< (nI m &&& 31))) by simp [n_tk4, hne], show n_tk5 (w.a 5) n m t = w.a 5 by simp [n_tk5, hne]] at hq; refine Eq.mp (congrArg (fun z => Q _ (mw z)) ?_) hq; exact mWd.sa_self _ 5
  · skip
    refine Sp.go 1 (g := (6, [(0, .ref 1), (1, .int (nI n)), (2, .int (nI m)), (3, .int (nI t))], [.ref 1])) rfl ?_
    refine Sp.get (v := .ref 5) rfl rfl rfl ?_
    refine Sp.go 2 (g := (11, [(0, .ref 1), (1, .int (nI n)), (2, .int (nI m)), (3, .int (nI t))], [.int (nI t), .int (nI n), .ref 5])) rfl ?_
    refine Sp.sr (some (.int ((nI t) * 8 + (nI n)))) (mw (w)) (k' := 1) (F' := 0) (N' := 0) (C' := 0) (S' := 0) (vs := [.int (nI n), .int (nI t)]) (st := [.ref 5]) rfl (by decide) rfl (Nat.le_of_ble_eq_true rfl) (Nat.le_of_ble_eq_true rfl) (by decide) (by decide) (Nat.zero_le _) (Nat.zero_le _) (fun Q' h => n_cell h) ?_
    refine Sp.go 1 (g := (15, [(0, .ref 1), (1, .int (nI n)), (2, .int (nI m)), (3, .int (nI t))], [.int ((nI t) * 8 + (nI n)), .ref 5, .int ((nI t) * 8 + (nI n)), .ref 5])) rfl ?_
    refine Sp.iald (f := w.a 5) (j := t * 8 + n) rfl rfl (m_ix_of (by simp only [nI, Int32.ofNat_add, Int32.ofNat_mul] <;> rfl) (by omega) (by omega)) ?_
    refine Sp.go 2 (g := (18, [(0, .ref 1), (1, .int (nI n)), (2, .int (nI m)), (3, .int (nI t))], [.int ((w.a 5 (t * 8 + n)) + 1), .int ((nI t) * 8 + (nI n)), .ref 5])) rfl ?_
    refine Sp.pa5 (j := t * 8 + n) rfl (m_ix_of (by simp only [nI, Int32.ofNat_add, Int32.ofNat_mul] <;> rfl) (by omega) (by omega)) ?_
    refine Sp.go 1 (g := (38, [(0, .ref 1), (1, .int (nI n)), (2, .int (nI m)), (3, .int (nI t))], [])) rfl ?_
    refine Sp.vret rfl rfl ?_
    rw [show n_tk4 (w.a 4) n m t = w.a 4 by simp [n_tk4, (nI_inj (by omega) (by omega)).mp (Classical.not_not.mp h1)], mWd.sa_self, show n_tk5 (w.a 5) n m t = upd (w.a 5) (t * 8 + n) (w.a 5 (t * 8 + n) + 1) by simp [n_tk5, (nI_inj (by omega) (by omega)).mp (Classical.not_not.mp h1)]] at hq; exact hq
theorem n_giveBack {X : mX} {C S : Nat} {Q : Outcome → mM → Prop} {w : mWd} {n m t : Nat} (hn : n < 8) (hm : m < 8) (ht : t < 64) (hq : Q (.returned none) (mw ((w.sa 4 (n_gb4 (w.a 4) n m t)).sa 5 (n_gb5 (w.a 5) n m t)))) : Sp X 13 1 21 C S (0, [(0, .ref 1), (1, .int (nI n)), (2, .int (nI m)), (3, .int (nI t))], []) (mw w) Q := by
  refine Sp.go 2 (g := (2, [(0, .ref 1), (1, .int (nI n)), (2, .int (nI m)), (3, .int (nI t))], [.int (nI m), .int (nI n)])) rfl ?_
  refine Sp.icmp rfl (fun (h1 : ¬ (nI n : Int32) = (nI m : Int32)) => ?_) (fun (h1 : ¬ (¬ (nI n : Int32) = (nI m : Int32))) => ?_)
  · skip
    refine Sp.go 1 (g := (23, [(0, .ref 1), (1, .int (nI n)), (2, .int (nI m)), (3, .int (nI t))], [.ref 1])) rfl ?_
    refine Sp.get (v := .ref 4) rfl rfl rfl ?_
    refine Sp.go 2 (g := (28, [(0, .ref 1), (1, .int (nI n)), (2, .int (nI m)), (3, .int (nI t))], [.int (nI t), .int (nI n), .ref 4])) rfl ?_
    refine Sp.sr (some (.int ((nI t) * 8 + (nI n)))) (mw (w)) (k' := 1) (F' := 0) (N' := 0) (C' := 0) (S' := 0) (vs := [.int (nI n), .int (nI t)]) (st := [.ref 4]) rfl (by decide) rfl (Nat.le_of_ble_eq_true rfl) (Nat.le_of_ble_eq_true rfl) (by decide) (by decide) (Nat.zero_le _) (Nat.zero_le _) (fun Q' h => n_cell h) ?_
    refine Sp.go 1 (g := (32, [(0, .ref 1), (1, .int (nI n)), (2, .int (nI m)), (3, .int (nI t))], [.int ((nI t) * 8 + (nI n)), .ref 4, .int ((nI t) * 8 + (nI n)), .ref 4])) rfl ?_
    refine Sp.iald (f := w.a 4) (j := t * 8 + n) rfl rfl (m_ix_of (by simp only [nI, Int32.ofNat_add, Int32.ofNat_mul] <;> rfl) (by omega) (by omega)) ?_
    refine Sp.go 6 (g := (39, [(0, .ref 1), (1, .int (nI n)), (2, .int (nI m)), (3, .int (nI t))], [.int ((w.a 4 (t * 8 + n)) &&& (((1 : Int32) <<< ((nI m) &&& 31)) ^^^ (-1))), .int ((nI t) * 8 + (nI n)), .ref 4])) rfl ?_
    refine Sp.pa4 (j := t * 8 + n) rfl (m_ix_of (by simp only [nI, Int32.ofNat_add, Int32.ofNat_mul] <;> rfl) (by omega) (by omega)) ?_
    refine Sp.vret rfl rfl ?_
    have hne : ¬ n = m := fun e => h1 (by rw [e]); rw [show n_gb4 (w.a 4) n m t = upd (w.a 4) (t * 8 + n) (w.a 4 (t * 8 + n) &&& (((1 : Int32) <<< (nI m &&& 31)) ^^^ -1)) by simp [n_gb4, hne], show n_gb5 (w.a 5) n m t = w.a 5 by simp [n_gb5, hne]] at hq; refine Eq.mp (congrArg (fun z => Q _ (mw z)) ?_) hq; exact mWd.sa_self _ 5
  · skip
    refine Sp.go 1 (g := (6, [(0, .ref 1), (1, .int (nI n)), (2, .int (nI m)), (3, .int (nI t))], [.ref 1])) rfl ?_
    refine Sp.get (v := .ref 5) rfl rfl rfl ?_
    refine Sp.go 2 (g := (11, [(0, .ref 1), (1, .int (nI n)), (2, .int (nI m)), (3, .int (nI t))], [.int (nI t), .int (nI n), .ref 5])) rfl ?_
    refine Sp.sr (some (.int ((nI t) * 8 + (nI n)))) (mw (w)) (k' := 1) (F' := 0) (N' := 0) (C' := 0) (S' := 0) (vs := [.int (nI n), .int (nI t)]) (st := [.ref 5]) rfl (by decide) rfl (Nat.le_of_ble_eq_true rfl) (Nat.le_of_ble_eq_true rfl) (by decide) (by decide) (Nat.zero_le _) (Nat.zero_le _) (fun Q' h => n_cell h) ?_
    refine Sp.go 1 (g := (15, [(0, .ref 1), (1, .int (nI n)), (2, .int (nI m)), (3, .int (nI t))], [.int ((nI t) * 8 + (nI n)), .ref 5, .int ((nI t) * 8 + (nI n)), .ref 5])) rfl ?_
    refine Sp.iald (f := w.a 5) (j := t * 8 + n) rfl rfl (m_ix_of (by simp only [nI, Int32.ofNat_add, Int32.ofNat_mul] <;> rfl) (by omega) (by omega)) ?_
    refine Sp.go 2 (g := (18, [(0, .ref 1), (1, .int (nI n)), (2, .int (nI m)), (3, .int (nI t))], [.int ((w.a 5 (t * 8 + n)) - 1), .int ((nI t) * 8 + (nI n)), .ref 5])) rfl ?_
    refine Sp.pa5 (j := t * 8 + n) rfl (m_ix_of (by simp only [nI, Int32.ofNat_add, Int32.ofNat_mul] <;> rfl) (by omega) (by omega)) ?_
    refine Sp.go 1 (g := (40, [(0, .ref 1), (1, .int (nI n)), (2, .int (nI m)), (3, .int (nI t))], [])) rfl ?_
    refine Sp.vret rfl rfl ?_
    rw [show n_gb4 (w.a 4) n m t = w.a 4 by simp [n_gb4, (nI_inj (by omega) (by omega)).mp (Classical.not_not.mp h1)], mWd.sa_self, show n_gb5 (w.a 5) n m t = upd (w.a 5) (t * 8 + n) (w.a 5 (t * 8 + n) - 1) by simp [n_gb5, (nI_inj (by omega) (by omega)).mp (Classical.not_not.mp h1)]] at hq; exact hq
end
section
/-! The network's loops. Rows laid by wip/gen/net2.py. -/
def m_any (p : Nat → Bool) : Nat → Nat → Bool
  | _, 0 => false
  | t, d + 1 => p t || m_any p (t + 1) d
theorem n_iow_loop {X : mX} {C S : Nat} {Q : Outcome → mM → Prop} {w : mWd} {a b e : Nat} {v : Int32} (ha : a < 8) (hb : b < 8) (he : e ≤ 64) : ∀ (d t : Nat), t + d = e → Q (.returned (some (.int (m_b2 (m_any (fun t => bt (w.a 3 (t * 8 + a)) b) t d))))) (mw w) → Sp X 5 1 21 C S (3, [(5, .int (nI t)), (0, .ref 1), (1, .int (nI a)), (2, .int (nI b)), (3, .int (v)), (4, .int (nI e))], []) (mw w) Q := by
  intro d
  induction d with
  | zero =>
    intro t  ht hq
    refine Sp.go 2 (g := (7, [(5, .int (nI t)), (0, .ref 1), (1, .int (nI a)), (2, .int (nI b)), (3, .int (v)), (4, .int (nI e))], [.int (nI e), .int (nI t)])) rfl ?_
    refine Sp.icmp rfl (fun u1 => ?_) (fun u1 => absurd ((nI_le' (by omega) (by omega)).mpr (by omega)) u1)
    refine Sp.go 1 (g := (37, [(5, .int (nI t)), (0, .ref 1), (1, .int (nI a)), (2, .int (nI b)), (3, .int (v)), (4, .int (nI e))], [.int 0])) rfl ?_
    refine Sp.iret rfl (Or.inr ⟨rfl, Or.inl rfl⟩) ?_
    exact hq
  | succ d ih =>
    intro t  ht hq
    refine Sp.go 2 (g := (7, [(5, .int (nI t)), (0, .ref 1), (1, .int (nI a)), (2, .int (nI b)), (3, .int (v)), (4, .int (nI e))], [.int (nI e), .int (nI t)])) rfl ?_
    refine Sp.icmp rfl (fun u1 => absurd u1 (fun q => absurd ((nI_le' (by omega) (by omega)).mp q) (by omega))) (fun u1 => ?_)
    refine Sp.go 1 (g := (11, [(5, .int (nI t)), (0, .ref 1), (1, .int (nI a)), (2, .int (nI b)), (3, .int (v)), (4, .int (nI e))], [.ref 1])) rfl ?_
    refine Sp.get (v := .ref 3) rfl rfl rfl ?_
    refine Sp.go 2 (g := (17, [(5, .int (nI t)), (0, .ref 1), (1, .int (nI a)), (2, .int (nI b)), (3, .int (v)), (4, .int (nI e))], [.int (nI t), .int (nI a), .ref 3])) rfl ?_
    refine Sp.sr (some (.int ((nI t) * 8 + (nI a)))) (mw (w)) (k' := 1) (F' := 0) (N' := 0) (C' := 0) (S' := 0) (vs := [.int (nI a), .int (nI t)]) (st := [.ref 3]) rfl (by decide) rfl (Nat.le_of_ble_eq_true rfl) (Nat.le_of_ble_eq_true rfl) (by decide) (by decide) (Nat.zero_le _) (Nat.zero_le _) (fun Q' h => n_cell h) ?_
    refine Sp.iald (f := w.a 3) (j := t * 8 + a) rfl rfl (m_ix_of (by simp only [nI, Int32.ofNat_add, Int32.ofNat_mul] <;> rfl) (by omega) (by omega)) ?_
    refine Sp.go 1 (g := (22, [(5, .int (nI t)), (0, .ref 1), (1, .int (nI a)), (2, .int (nI b)), (3, .int (v)), (4, .int (nI e))], [.int (nI b), .int (w.a 3 (t * 8 + a))])) rfl ?_
    refine Sp.sr (some (.int (m_b2 (bt (w.a 3 (t * 8 + a)) b)))) (mw (w)) (k' := 44) (F' := 0) (N' := 0) (C' := 0) (S' := 0) (vs := [.int (w.a 3 (t * 8 + a)), .int (nI b)]) (st := []) rfl (by decide) rfl (Nat.le_of_ble_eq_true rfl) (Nat.le_of_ble_eq_true rfl) (by decide) (by decide) (Nat.zero_le _) (Nat.zero_le _) (fun Q' h => n_inSet (by omega) h) ?_
    refine Sp.ifb rfl (fun h2 => ?_) (fun h2 => ?_)
    · skip
      refine Sp.go 2 (g := (3, [(5, .int (nI t + 1)), (0, .ref 1), (1, .int (nI a)), (2, .int (nI b)), (3, .int (v)), (4, .int (nI e))], [])) rfl ?_
      rw [← nI_succ]
      refine ih (t + 1) (by omega) ?_
      simp only [m_any, h2, Bool.false_or] at hq
      exact hq
    · skip
      refine Sp.go 1 (g := (29, [(5, .int (nI t)), (0, .ref 1), (1, .int (nI a)), (2, .int (nI b)), (3, .int (v)), (4, .int (nI e))], [.int 1])) rfl ?_
      refine Sp.iret rfl (Or.inr ⟨rfl, Or.inr rfl⟩) ?_
      simp only [m_any, h2, Bool.true_or] at hq; exact hq
theorem n_isOpenWithin {X : mX} {C S : Nat} {Q : Outcome → mM → Prop} {w : mWd} {a b s e : Nat} (ha : a < 8) (hb : b < 8) (hs : s ≤ e) (he : e ≤ 64) (hq : Q (.returned (some (.int (m_b2 (m_any (fun t => bt (w.a 3 (t * 8 + a)) b) s (e - s)))))) (mw w)) : Sp X 5 1 21 C S (0, [(0, .ref 1), (1, .int (nI a)), (2, .int (nI b)), (3, .int (nI s)), (4, .int (nI e))], []) (mw w) Q := by
  refine Sp.go 2 (g := (3, [(5, .int (nI s)), (0, .ref 1), (1, .int (nI a)), (2, .int (nI b)), (3, .int (nI s)), (4, .int (nI e))], [])) rfl ?_
  exact n_iow_loop ha hb he (e - s) s (by omega) hq
def n_mk1 (op : Nat → Int32) (a b t : Nat) : Nat → Int32 := upd (upd op (t * 8 + a) (op (t * 8 + a) ||| ((1 : Int32) <<< (nI b &&& 31)))) (t * 8 + b) (upd op (t * 8 + a) (op (t * 8 + a) ||| ((1 : Int32) <<< (nI b &&& 31))) (t * 8 + b) ||| ((1 : Int32) <<< (nI a &&& 31)))
def n_mk (a b : Nat) : Nat → Nat → (Nat → Int32) → Nat → Int32
  | _, 0, op => op
  | t, d + 1, op => n_mk a b (t + 1) d (n_mk1 op a b t)
theorem n_mk_loop {X : mX} {C S : Nat} {Q : Outcome → mM → Prop} {a b e : Nat} {v : Int32} (ha : a < 8) (hb : b < 8) (he : e ≤ 64) : ∀ (d t : Nat) (w : mWd), t + d = e → Q (.returned none) (mw ((w.sa 3 (n_mk a b t d (w.a 3))).sf 1 (w.f 1 + 1))) → Sp X 6 1 21 C S (3, [(5, .int (nI t)), (0, .ref 1), (1, .int (nI a)), (2, .int (nI b)), (3, .int (v)), (4, .int (nI e))], []) (mw w) Q := by
  intro d
  induction d with
  | zero =>
    intro t w ht hq
    refine Sp.go 2 (g := (7, [(5, .int (nI t)), (0, .ref 1), (1, .int (nI a)), (2, .int (nI b)), (3, .int (v)), (4, .int (nI e))], [.int (nI e), .int (nI t)])) rfl ?_
    refine Sp.icmp rfl (fun u1 => ?_) (fun u1 => absurd ((nI_le' (by omega) (by omega)).mpr (by omega)) u1)
    refine Sp.go 2 (g := (52, [(5, .int (nI t)), (0, .ref 1), (1, .int (nI a)), (2, .int (nI b)), (3, .int (v)), (4, .int (nI e))], [.ref 1, .ref 1])) rfl ?_
    refine Sp.get (v := .int (w.f 1)) rfl rfl rfl ?_
    refine Sp.go 2 (g := (57, [(5, .int (nI t)), (0, .ref 1), (1, .int (nI a)), (2, .int (nI b)), (3, .int (v)), (4, .int (nI e))], [.int ((w.f 1) + 1), .ref 1])) rfl ?_
    refine Sp.pf1 rfl ?_
    refine Sp.vret rfl rfl ?_
    simp only [n_mk, mWd.sa_self] at hq; exact hq
  | succ d ih =>
    intro t w ht hq
    refine Sp.go 2 (g := (7, [(5, .int (nI t)), (0, .ref 1), (1, .int (nI a)), (2, .int (nI b)), (3, .int (v)), (4, .int (nI e))], [.int (nI e), .int (nI t)])) rfl ?_
    refine Sp.icmp rfl (fun u1 => absurd u1 (fun q => absurd ((nI_le' (by omega) (by omega)).mp q) (by omega))) (fun u1 => ?_)
    refine Sp.go 1 (g := (11, [(5, .int (nI t)), (0, .ref 1), (1, .int (nI a)), (2, .int (nI b)), (3, .int (v)), (4, .int (nI e))], [.ref 1])) rfl ?_
    refine Sp.get (v := .ref 3) rfl rfl rfl ?_
    refine Sp.go 2 (g := (17, [(5, .int (nI t)), (0, .ref 1), (1, .int (nI a)), (2, .int (nI b)), (3, .int (v)), (4, .int (nI e))], [.int (nI t), .int (nI a), .ref 3])) rfl ?_
    refine Sp.sr (some (.int ((nI t) * 8 + (nI a)))) (mw (w)) (k' := 1) (F' := 0) (N' := 0) (C' := 0) (S' := 0) (vs := [.int (nI a), .int (nI t)]) (st := [.ref 3]) rfl (by decide) rfl (Nat.le_of_ble_eq_true rfl) (Nat.le_of_ble_eq_true rfl) (by decide) (by decide) (Nat.zero_le _) (Nat.zero_le _) (fun Q' h => n_cell h) ?_
    refine Sp.go 1 (g := (21, [(5, .int (nI t)), (0, .ref 1), (1, .int (nI a)), (2, .int (nI b)), (3, .int (v)), (4, .int (nI e))], [.int ((nI t) * 8 + (nI a)), .ref 3, .int ((nI t) * 8 + (nI a)), .ref 3])) rfl ?_
    refine Sp.iald (f := w.a 3) (j := t * 8 + a) rfl rfl (m_ix_of (by simp only [nI, Int32.ofNat_add, Int32.ofNat_mul] <;> rfl) (by omega) (by omega)) ?_
    refine Sp.go 4 (g := (26, [(5, .int (nI t)), (0, .ref 1), (1, .int (nI a)), (2, .int (nI b)), (3, .int (v)), (4, .int (nI e))], [.int ((w.a 3 (t * 8 + a)) ||| ((1 : Int32) <<< ((nI b) &&& 31))), .int ((nI t) * 8 + (nI a)), .ref 3])) rfl ?_
    refine Sp.pa3 (j := t * 8 + a) rfl (m_ix_of (by simp only [nI, Int32.ofNat_add, Int32.ofNat_mul] <;> rfl) (by omega) (by omega)) ?_
    refine Sp.go 1 (g := (28, [(5, .int (nI t)), (0, .ref 1), (1, .int (nI a)), (2, .int (nI b)), (3, .int (v)), (4, .int (nI e))], [.ref 1])) rfl ?_
    refine Sp.get (v := .ref 3) rfl rfl rfl ?_
    refine Sp.go 2 (g := (34, [(5, .int (nI t)), (0, .ref 1), (1, .int (nI a)), (2, .int (nI b)), (3, .int (v)), (4, .int (nI e))], [.int (nI t), .int (nI b), .ref 3])) rfl ?_
    refine Sp.sr (some (.int ((nI t) * 8 + (nI b)))) (mw (w.sa 3 (upd (w.a 3) (t * 8 + a) ((w.a 3 (t * 8 + a)) ||| ((1 : Int32) <<< ((nI b) &&& 31)))))) (k' := 1) (F' := 0) (N' := 0) (C' := 0) (S' := 0) (vs := [.int (nI b), .int (nI t)]) (st := [.ref 3]) rfl (by decide) rfl (Nat.le_of_ble_eq_true rfl) (Nat.le_of_ble_eq_true rfl) (by decide) (by decide) (Nat.zero_le _) (Nat.zero_le _) (fun Q' h => n_cell h) ?_
    refine Sp.go 1 (g := (38, [(5, .int (nI t)), (0, .ref 1), (1, .int (nI a)), (2, .int (nI b)), (3, .int (v)), (4, .int (nI e))], [.int ((nI t) * 8 + (nI b)), .ref 3, .int ((nI t) * 8 + (nI b)), .ref 3])) rfl ?_
    refine Sp.iald (f := (upd (w.a 3) (t * 8 + a) ((w.a 3 (t * 8 + a)) ||| ((1 : Int32) <<< ((nI b) &&& 31))))) (j := t * 8 + b) rfl rfl (m_ix_of (by simp only [nI, Int32.ofNat_add, Int32.ofNat_mul] <;> rfl) (by omega) (by omega)) ?_
    refine Sp.go 4 (g := (43, [(5, .int (nI t)), (0, .ref 1), (1, .int (nI a)), (2, .int (nI b)), (3, .int (v)), (4, .int (nI e))], [.int (((upd (w.a 3) (t * 8 + a) ((w.a 3 (t * 8 + a)) ||| ((1 : Int32) <<< ((nI b) &&& 31)))) (t * 8 + b)) ||| ((1 : Int32) <<< ((nI a) &&& 31))), .int ((nI t) * 8 + (nI b)), .ref 3])) rfl ?_
    refine Sp.pa3 (j := t * 8 + b) rfl (m_ix_of (by simp only [nI, Int32.ofNat_add, Int32.ofNat_mul] <;> rfl) (by omega) (by omega)) ?_
    refine Sp.wd (w' := w.sa 3 (upd (upd (w.a 3) (t * 8 + a) ((w.a 3 (t * 8 + a)) ||| ((1 : Int32) <<< ((nI b) &&& 31)))) (t * 8 + b) (((upd (w.a 3) (t * 8 + a) ((w.a 3 (t * 8 + a)) ||| ((1 : Int32) <<< ((nI b) &&& 31)))) (t * 8 + b)) ||| ((1 : Int32) <<< ((nI a) &&& 31))))) (mWd.sa_sa ..) ?_
    refine Sp.go 2 (g := (3, [(5, .int (nI t + 1)), (0, .ref 1), (1, .int (nI a)), (2, .int (nI b)), (3, .int (v)), (4, .int (nI e))], [])) rfl ?_
    rw [← nI_succ]
    refine ih (t + 1) (w.sa 3 (upd (upd (w.a 3) (t * 8 + a) ((w.a 3 (t * 8 + a)) ||| ((1 : Int32) <<< ((nI b) &&& 31)))) (t * 8 + b) (((upd (w.a 3) (t * 8 + a) ((w.a 3 (t * 8 + a)) ||| ((1 : Int32) <<< ((nI b) &&& 31)))) (t * 8 + b)) ||| ((1 : Int32) <<< ((nI a) &&& 31))))) (by omega) ?_
    simp only [n_mk] at hq
    refine Eq.mp (congrArg (fun z => Q _ (mw z)) ?_) hq
    rw [mWd.sa_sa]
    rfl
theorem n_makeContact {X : mX} {C S : Nat} {Q : Outcome → mM → Prop} {w : mWd} {a b s e : Nat} (ha : a < 8) (hb : b < 8) (hs : s ≤ e) (he : e ≤ 64) (hq : Q (.returned none) (mw ((w.sa 3 (n_mk a b s (e - s) (w.a 3))).sf 1 (w.f 1 + 1)))) : Sp X 6 1 21 C S (0, [(0, .ref 1), (1, .int (nI a)), (2, .int (nI b)), (3, .int (nI s)), (4, .int (nI e))], []) (mw w) Q := by
  refine Sp.go 2 (g := (3, [(5, .int (nI s)), (0, .ref 1), (1, .int (nI a)), (2, .int (nI b)), (3, .int (nI s)), (4, .int (nI e))], [])) rfl ?_
  exact n_mk_loop ha hb he (e - s) s w (by omega) hq
def n_cl1 (op : Nat → Int32) (a b t : Nat) : Nat → Int32 := upd (upd op (t * 8 + a) (op (t * 8 + a) &&& (((1 : Int32) <<< (nI b &&& 31)) ^^^ -1))) (t * 8 + b) (upd op (t * 8 + a) (op (t * 8 + a) &&& (((1 : Int32) <<< (nI b &&& 31)) ^^^ -1)) (t * 8 + b) &&& (((1 : Int32) <<< (nI a &&& 31)) ^^^ -1))
def n_cl (a b : Nat) : Nat → Nat → (Nat → Int32) → Nat → Int32
  | _, 0, op => op
  | t, d + 1, op => n_cl a b (t + 1) d (n_cl1 op a b t)
theorem n_cl_loop {X : mX} {C S : Nat} {Q : Outcome → mM → Prop} {a b : Nat} {v : Int32} (ha : a < 8) (hb : b < 8) : ∀ (d t : Nat) (w : mWd), t + d = 64 → Q (.returned none) (mw (w.sa 3 (n_cl a b t d (w.a 3)))) → Sp X 7 1 21 C S (3, [(4, .int (nI t)), (0, .ref 1), (1, .int (nI a)), (2, .int (nI b)), (3, .int (v))], []) (mw w) Q := by
  intro d
  induction d with
  | zero =>
    intro t w ht hq
    refine Sp.go 2 (g := (7, [(4, .int (nI t)), (0, .ref 1), (1, .int (nI a)), (2, .int (nI b)), (3, .int (v))], [.int 64, .int (nI t)])) rfl ?_
    refine Sp.icmp rfl (fun u1 => ?_) (fun u1 => absurd ((nI_le' (b := t) (a := 64) (by omega) (by omega)).mpr (by omega)) u1)
    refine Sp.vret rfl rfl ?_
    simp only [n_cl, mWd.sa_self] at hq; exact hq
  | succ d ih =>
    intro t w ht hq
    refine Sp.go 2 (g := (7, [(4, .int (nI t)), (0, .ref 1), (1, .int (nI a)), (2, .int (nI b)), (3, .int (v))], [.int 64, .int (nI t)])) rfl ?_
    refine Sp.icmp rfl (fun u1 => absurd u1 (fun q => absurd ((nI_le' (b := t) (a := 64) (by omega) (by omega)).mp q) (by omega))) (fun u1 => ?_)
    refine Sp.go 1 (g := (11, [(4, .int (nI t)), (0, .ref 1), (1, .int (nI a)), (2, .int (nI b)), (3, .int (v))], [.ref 1])) rfl ?_
    refine Sp.get (v := .ref 3) rfl rfl rfl ?_
    refine Sp.go 2 (g := (17, [(4, .int (nI t)), (0, .ref 1), (1, .int (nI a)), (2, .int (nI b)), (3, .int (v))], [.int (nI t), .int (nI a), .ref 3])) rfl ?_
    refine Sp.sr (some (.int ((nI t) * 8 + (nI a)))) (mw (w)) (k' := 1) (F' := 0) (N' := 0) (C' := 0) (S' := 0) (vs := [.int (nI a), .int (nI t)]) (st := [.ref 3]) rfl (by decide) rfl (Nat.le_of_ble_eq_true rfl) (Nat.le_of_ble_eq_true rfl) (by decide) (by decide) (Nat.zero_le _) (Nat.zero_le _) (fun Q' h => n_cell h) ?_
    refine Sp.go 1 (g := (21, [(4, .int (nI t)), (0, .ref 1), (1, .int (nI a)), (2, .int (nI b)), (3, .int (v))], [.int ((nI t) * 8 + (nI a)), .ref 3, .int ((nI t) * 8 + (nI a)), .ref 3])) rfl ?_
    refine Sp.iald (f := w.a 3) (j := t * 8 + a) rfl rfl (m_ix_of (by simp only [nI, Int32.ofNat_add, Int32.ofNat_mul] <;> rfl) (by omega) (by omega)) ?_
    refine Sp.go 6 (g := (28, [(4, .int (nI t)), (0, .ref 1), (1, .int (nI a)), (2, .int (nI b)), (3, .int (v))], [.int ((w.a 3 (t * 8 + a)) &&& (((1 : Int32) <<< ((nI b) &&& 31)) ^^^ (-1))), .int ((nI t) * 8 + (nI a)), .ref 3])) rfl ?_
    refine Sp.pa3 (j := t * 8 + a) rfl (m_ix_of (by simp only [nI, Int32.ofNat_add, Int32.ofNat_mul] <;> rfl) (by omega) (by omega)) ?_
    refine Sp.go 1 (g := (30, [(4, .int (nI t)), (0, .ref 1), (1, .int (nI a)), (2, .int (nI b)), (3, .int (v))], [.ref 1])) rfl ?_
    refine Sp.get (v := .ref 3) rfl rfl rfl ?_
    refine Sp.go 2 (g := (36, [(4, .int (nI t)), (0, .ref 1), (1, .int (nI a)), (2, .int (nI b)), (3, .int (v))], [.int (nI t), .int (nI b), .ref 3])) rfl ?_
    refine Sp.sr (some (.int ((nI t) * 8 + (nI b)))) (mw (w.sa 3 (upd (w.a 3) (t * 8 + a) ((w.a 3 (t * 8 + a)) &&& (((1 : Int32) <<< ((nI b) &&& 31)) ^^^ (-1)))))) (k' := 1) (F' := 0) (N' := 0) (C' := 0) (S' := 0) (vs := [.int (nI b), .int (nI t)]) (st := [.ref 3]) rfl (by decide) rfl (Nat.le_of_ble_eq_true rfl) (Nat.le_of_ble_eq_true rfl) (by decide) (by decide) (Nat.zero_le _) (Nat.zero_le _) (fun Q' h => n_cell h) ?_
    refine Sp.go 1 (g := (40, [(4, .int (nI t)), (0, .ref 1), (1, .int (nI a)), (2, .int (nI b)), (3, .int (v))], [.int ((nI t) * 8 + (nI b)), .ref 3, .int ((nI t) * 8 + (nI b)), .ref 3])) rfl ?_
    refine Sp.iald (f := (upd (w.a 3) (t * 8 + a) ((w.a 3 (t * 8 + a)) &&& (((1 : Int32) <<< ((nI b) &&& 31)) ^^^ (-1))))) (j := t * 8 + b) rfl rfl (m_ix_of (by simp only [nI, Int32.ofNat_add, Int32.ofNat_mul] <;> rfl) (by omega) (by omega)) ?_
    refine Sp.go 6 (g := (47, [(4, .int (nI t)), (0, .ref 1), (1, .int (nI a)), (2, .int (nI b)), (3, .int (v))], [.int (((upd (w.a 3) (t * 8 + a) ((w.a 3 (t * 8 + a)) &&& (((1 : Int32) <<< ((nI b) &&& 31)) ^^^ (-1)))) (t * 8 + b)) &&& (((1 : Int32) <<< ((nI a) &&& 31)) ^^^ (-1))), .int ((nI t) * 8 + (nI b)), .ref 3])) rfl ?_
    refine Sp.pa3 (j := t * 8 + b) rfl (m_ix_of (by simp only [nI, Int32.ofNat_add, Int32.ofNat_mul] <;> rfl) (by omega) (by omega)) ?_
    refine Sp.wd (w' := w.sa 3 (upd (upd (w.a 3) (t * 8 + a) ((w.a 3 (t * 8 + a)) &&& (((1 : Int32) <<< ((nI b) &&& 31)) ^^^ (-1)))) (t * 8 + b) (((upd (w.a 3) (t * 8 + a) ((w.a 3 (t * 8 + a)) &&& (((1 : Int32) <<< ((nI b) &&& 31)) ^^^ (-1)))) (t * 8 + b)) &&& (((1 : Int32) <<< ((nI a) &&& 31)) ^^^ (-1))))) (mWd.sa_sa ..) ?_
    refine Sp.go 2 (g := (3, [(4, .int (nI t + 1)), (0, .ref 1), (1, .int (nI a)), (2, .int (nI b)), (3, .int (v))], [])) rfl ?_
    rw [← nI_succ]
    refine ih (t + 1) (w.sa 3 (upd (upd (w.a 3) (t * 8 + a) ((w.a 3 (t * 8 + a)) &&& (((1 : Int32) <<< ((nI b) &&& 31)) ^^^ (-1)))) (t * 8 + b) (((upd (w.a 3) (t * 8 + a) ((w.a 3 (t * 8 + a)) &&& (((1 : Int32) <<< ((nI b) &&& 31)) ^^^ (-1)))) (t * 8 + b)) &&& (((1 : Int32) <<< ((nI a) &&& 31)) ^^^ (-1))))) (by omega) ?_
    simp only [n_cl] at hq
    refine Eq.mp (congrArg (fun z => Q _ (mw z)) ?_) hq
    rw [mWd.sa_sa]
    rfl
theorem n_closeFrom {X : mX} {C S : Nat} {Q : Outcome → mM → Prop} {w : mWd} {a b s : Nat} (ha : a < 8) (hb : b < 8) (hs : s ≤ 64) (hq : Q (.returned none) (mw (w.sa 3 (n_cl a b s (64 - s) (w.a 3))))) : Sp X 7 1 21 C S (0, [(0, .ref 1), (1, .int (nI a)), (2, .int (nI b)), (3, .int (nI s))], []) (mw w) Q := by
  refine Sp.go 2 (g := (3, [(4, .int (nI s)), (0, .ref 1), (1, .int (nI a)), (2, .int (nI b)), (3, .int (nI s))], [])) rfl ?_
  exact n_cl_loop ha hb (64 - s) s w (by omega) hq
end
section
/-! The finder of ways. Rows laid by wip/gen/find.py. -/
theorem lv_pick_m (X : mX) (ls : List (Nat × Value)) (ks : List Nat) : lv_pick (m_lv X ls) ks = m_lv X (lv_pick ls ks) := by
  induction ks with
  | nil => rfl
  | cons k t ih =>
    unfold lv_pick m_lv at ih ⊢
    simp only [List.filterMap_cons, List.getElem?_map]
    cases ls[k]? with
    | none => simpa using ih
    | some q => simpa using ih
/-- fewer locals, in any order: by their places -/
theorem Sp.lsub {X : mX} {k F N C S pc : Nat} {ls ls' : List (Nat × Value)} {st : List Value} {M : mM} {Q : Outcome → mM → Prop} (ks : List Nat) (hl : lv_pick ls ks = ls') (kk : Sp X k F N C S (pc, ls', st) M Q) : Sp X k F N C S (pc, ls, st) M Q := by
  intro p e R s m args below meth c H locs cells slots mc ms la hC hF hN hc hs hmc hms hR hl0 hv
  exact kk p e R s m args below meth c H locs cells slots mc ms la hC hF hN hc hs hmc hms hR hl0 (lv_sub hv ks (by rw [lv_pick_m, hl]))
/-- the least node of a set, 7 where there is none below -/
def f_least (x : Int32) : Nat → Nat → Nat
  | n, 0 => n
  | n, d + 1 => if bt x n = true then n else f_least x (n + 1) d
theorem f_least_le (x : Int32) : ∀ d n, f_least x n d ≤ n + d := by
  intro d
  induction d with
  | zero => intro n; exact Nat.le_refl _
  | succ d ih =>
    intro n
    unfold f_least
    split
    · omega
    · have := ih (n + 1)
      omega
def f_all (on : Nat → Int32) (set : Int32) : Nat → Nat → Int32 → Int32
  | _, 0, acc => acc
  | n, d + 1, acc => f_all on set (n + 1) d (if bt set n = true then acc ||| on n else acc)
def f_soon (on : Nat → Nat → Int32) (g : Nat) : Nat → Nat → Int32 → Option Nat
  | _, 0, _ => none
  | t, d + 1, r => if bt (f_all (fun n => on n t) r 0 8 0) g = true then some (t + 1) else f_soon on g (t + 1) d (f_all (fun n => on n t) r 0 8 0)
def f_res (o : Option Nat) : Int32 := match o with
  | none => -1
  | some e => nI e
def f_set (on : Nat → Int32) (l : Int32) : Nat → Nat → Int32 → Int32
  | _, 0, acc => acc
  | n, d + 1, acc => f_set on l (n + 1) d (if on n &&& l = 0 then acc else acc ||| ((1 : Int32) <<< (nI n &&& 31)))
/-- the row of leading sets, from s + d - 1 down to s -/
def f_lead (on : Nat → Nat → Int32) (s : Nat) : Nat → (Nat → Int32) → Nat → Int32
  | 0, l => l
  | d + 1, l => f_lead on s d (upd l (s + d) (f_set (fun n => on n (s + d)) (l (s + d + 1)) 0 8 0))
def f_walk (on : Nat → Nat → Int32) (l : Nat → Int32) : Nat → Nat → Nat → (Nat → Int32) → Nat → Int32
  | _, 0, _, wy => wy
  | t, d + 1, n, wy => f_walk on l (t + 1) d (f_least (on n t &&& l (t + 1)) 0 7) (upd wy (t + 1) (nI (f_least (on n t &&& l (t + 1)) 0 7)))
theorem f_least_loop {X : mX} {C S : Nat} {Q : Outcome → mM → Prop} {x : Int32} {M : mM} : ∀ (d n : Nat), n + d = 7 → Q (.returned (some (.int (nI (f_least x n d))))) M → Sp X 25 1 21 C S (2, [(1, .int (nI n)), (0, .int (x))], []) M Q := by
  intro d
  induction d with
  | zero =>
    intro n hn hq
    refine Sp.go 2 (g := (5, [(1, .int (nI n)), (0, .int (x))], [.int 7, .int (nI n)])) rfl ?_
    refine Sp.icmp rfl (fun u1 => ?_) (fun u1 => absurd ((nI_le' (a := 7) (b := n) (by omega) (by omega)).mpr (by omega)) u1)
    refine Sp.go 1 (g := (23, [(1, .int (nI n)), (0, .int (x))], [.int (nI n)])) rfl ?_
    refine Sp.iret rfl (Or.inl rfl) ?_
    exact hq
  | succ d ih =>
    intro n hn hq
    unfold f_least at hq
    refine Sp.go 2 (g := (5, [(1, .int (nI n)), (0, .int (x))], [.int 7, .int (nI n)])) rfl ?_
    refine Sp.icmp rfl (fun u1 => absurd u1 (fun q => absurd ((nI_le' (a := 7) (b := n) (by omega) (by omega)).mp q) (by omega))) (fun u1 => ?_)
    refine Sp.go 2 (g := (10, [(1, .int (nI n)), (0, .int (x))], [.int (nI n), .int (x)])) rfl ?_
    refine Sp.sr (some (.int (m_b2 (bt (x) n)))) M (k' := 44) (F' := 0) (N' := 0) (C' := 0) (S' := 0) (vs := [.int (x), .int (nI n)]) (st := []) rfl (by decide) rfl (Nat.le_of_ble_eq_true rfl) (Nat.le_of_ble_eq_true rfl) (by decide) (by decide) (Nat.zero_le _) (Nat.zero_le _) (fun Q' h => n_inSet (by omega) h) ?_
    refine Sp.ifbn rfl (fun h2 => ?_) (fun h2 => ?_)
    · skip
      refine Sp.go 1 (g := (23, [(1, .int (nI n)), (0, .int (x))], [.int (nI n)])) rfl ?_
      refine Sp.iret rfl (Or.inl rfl) ?_
      rw [if_pos h2] at hq; exact hq
    · skip
      refine Sp.go 2 (g := (2, [(1, .int (nI n + 1)), (0, .int (x))], [])) rfl ?_
      rw [← nI_succ]
      refine ih (n + 1) (by omega) ?_
      rw [if_neg (by rw [h2]; decide)] at hq
      exact hq
theorem f_leastOf {X : mX} {C S : Nat} {Q : Outcome → mM → Prop} {x : Int32} {M : mM} (hq : Q (.returned (some (.int (nI (f_least x 0 7))))) M) : Sp X 25 1 21 C S (0, [(0, .int (x))], []) M Q := by
  refine Sp.go 2 (g := (2, [(1, .int 0), (0, .int (x))], [])) rfl ?_
  exact f_least_loop 7 0 rfl hq
theorem f_all_loop {X : mX} {C S : Nat} {Q : Outcome → mM → Prop} {w : mWd} {set : Int32} {t : Nat} (ht : t < 64) : ∀ (d n : Nat) (acc : Int32), n + d = 8 → Q (.returned (some (.int (f_all (fun n => n_on (w.a 3) (w.a 4) (w.a 5) (w.a 2) n t) set n d acc)))) (mw w) → Sp X 22 2 45 C S (5, [(4, .int (nI n)), (3, .int (acc)), (0, .ref 1), (1, .int (set)), (2, .int (nI t))], []) (mw w) Q := by
  intro d
  induction d with
  | zero =>
    intro n acc hn hq
    refine Sp.go 2 (g := (9, [(4, .int (nI n)), (3, .int (acc)), (0, .ref 1), (1, .int (set)), (2, .int (nI t))], [.int 8, .int (nI n)])) rfl ?_
    refine Sp.icmp rfl (fun u1 => ?_) (fun u1 => absurd ((nI_le' (a := 8) (b := n) (by omega) (by omega)).mpr (by omega)) u1)
    refine Sp.go 1 (g := (38, [(4, .int (nI n)), (3, .int (acc)), (0, .ref 1), (1, .int (set)), (2, .int (nI t))], [.int (acc)])) rfl ?_
    refine Sp.iret rfl (Or.inl rfl) ?_
    exact hq
  | succ d ih =>
    intro n acc hn hq
    unfold f_all at hq
    refine Sp.go 2 (g := (9, [(4, .int (nI n)), (3, .int (acc)), (0, .ref 1), (1, .int (set)), (2, .int (nI t))], [.int 8, .int (nI n)])) rfl ?_
    refine Sp.icmp rfl (fun u1 => absurd u1 (fun q => absurd ((nI_le' (a := 8) (b := n) (by omega) (by omega)).mp q) (by omega))) (fun u1 => ?_)
    refine Sp.go 2 (g := (15, [(4, .int (nI n)), (3, .int (acc)), (0, .ref 1), (1, .int (set)), (2, .int (nI t))], [.int (nI n), .int (set)])) rfl ?_
    refine Sp.sr (some (.int (m_b2 (bt (set) n)))) (mw (w)) (k' := 44) (F' := 0) (N' := 0) (C' := 0) (S' := 0) (vs := [.int (set), .int (nI n)]) (st := []) rfl (by decide) rfl (Nat.le_of_ble_eq_true rfl) (Nat.le_of_ble_eq_true rfl) (by decide) (by decide) (Nat.zero_le _) (Nat.zero_le _) (fun Q' h => n_inSet (by omega) h) ?_
    refine Sp.ifb rfl (fun h2 => ?_) (fun h2 => ?_)
    · skip
      refine Sp.go 2 (g := (5, [(4, .int (nI n + 1)), (3, .int (acc)), (0, .ref 1), (1, .int (set)), (2, .int (nI t))], [])) rfl ?_
      rw [← nI_succ]
      refine ih (n + 1) _ (by omega) ?_
      first | (rw [if_pos h2] at hq; exact hq) | (rw [if_neg (by rw [h2]; decide)] at hq; exact hq)
    · skip
      refine Sp.go 4 (g := (26, [(4, .int (nI n)), (3, .int (acc)), (0, .ref 1), (1, .int (set)), (2, .int (nI t))], [.int (nI t), .int (nI n), .ref 1, .int (acc)])) rfl ?_
      refine Sp.vr (some (.int (n_on (w.a 3) (w.a 4) (w.a 5) (w.a 2) n t))) (mw (w)) (k' := 11) (F' := 1) (N' := 21) (C' := 0) (S' := 0) (vs := [.int (nI n), .int (nI t)]) (st := [.int (acc)]) rfl rfl rfl rfl (Nat.le_of_ble_eq_true rfl) (Nat.le_of_ble_eq_true rfl) (by decide) (by decide) (Nat.zero_le _) (Nat.zero_le _) (fun Q' h => n_onward (by omega) (by omega) h) ?_
      refine Sp.go 4 (g := (5, [(4, .int (nI n + 1)), (3, .int (acc ||| (n_on (w.a 3) (w.a 4) (w.a 5) (w.a 2) n t))), (0, .ref 1), (1, .int (set)), (2, .int (nI t))], [])) rfl ?_
      rw [← nI_succ]
      refine ih (n + 1) _ (by omega) ?_
      first | (rw [if_pos h2] at hq; exact hq) | (rw [if_neg (by rw [h2]; decide)] at hq; exact hq)
theorem f_onwardOfAll {X : mX} {C S : Nat} {Q : Outcome → mM → Prop} {w : mWd} {set : Int32} {t : Nat} (ht : t < 64) (hq : Q (.returned (some (.int (f_all (fun n => n_on (w.a 3) (w.a 4) (w.a 5) (w.a 2) n t) set 0 8 0)))) (mw w)) : Sp X 22 2 45 C S (0, [(0, .ref 1), (1, .int (set)), (2, .int (nI t))], []) (mw w) Q := by
  refine Sp.go 4 (g := (5, [(4, .int 0), (3, .int 0), (0, .ref 1), (1, .int (set)), (2, .int (nI t))], [])) rfl ?_
  exact f_all_loop ht 8 0 0 rfl hq
theorem f_soon_loop {X : mX} {C S : Nat} {Q : Outcome → mM → Prop} {w : mWd} {v1 v2 : Int32} {g : Nat} (hg : g < 8) : ∀ (d t : Nat) (r : Int32), t + d = 64 → Q (.returned (some (.int (f_res (f_soon (n_on (w.a 3) (w.a 4) (w.a 5) (w.a 2)) g t d r))))) (mw w) → Sp X 21 3 69 C S (8, [(5, .int (nI t)), (4, .int (r)), (0, .ref 1), (1, .int (v1)), (2, .int (v2)), (3, .int (nI g))], []) (mw w) Q := by
  intro d
  induction d with
  | zero =>
    intro t r ht hq
    refine Sp.go 2 (g := (12, [(5, .int (nI t)), (4, .int (r)), (0, .ref 1), (1, .int (v1)), (2, .int (v2)), (3, .int (nI g))], [.int 64, .int (nI t)])) rfl ?_
    refine Sp.icmp rfl (fun u1 => ?_) (fun u1 => absurd ((nI_le' (a := 64) (b := t) (by omega) (by omega)).mpr (by omega)) u1)
    refine Sp.go 1 (g := (46, [(5, .int (nI t)), (4, .int (r)), (0, .ref 1), (1, .int (v1)), (2, .int (v2)), (3, .int (nI g))], [.int (-1)])) rfl ?_
    refine Sp.iret rfl (Or.inl rfl) ?_
    exact hq
  | succ d ih =>
    intro t r ht hq
    unfold f_soon at hq
    refine Sp.go 2 (g := (12, [(5, .int (nI t)), (4, .int (r)), (0, .ref 1), (1, .int (v1)), (2, .int (v2)), (3, .int (nI g))], [.int 64, .int (nI t)])) rfl ?_
    refine Sp.icmp rfl (fun u1 => absurd u1 (fun q => absurd ((nI_le' (a := 64) (b := t) (by omega) (by omega)).mp q) (by omega))) (fun u1 => ?_)
    refine Sp.go 3 (g := (20, [(5, .int (nI t)), (4, .int (r)), (0, .ref 1), (1, .int (v1)), (2, .int (v2)), (3, .int (nI g))], [.int (nI t), .int (r), .ref 1])) rfl ?_
    refine Sp.sr (some (.int (f_all (fun n => n_on (w.a 3) (w.a 4) (w.a 5) (w.a 2) n t) (r) 0 8 0))) (mw (w)) (k' := 22) (F' := 2) (N' := 45) (C' := 0) (S' := 0) (vs := [.ref 1, .int (r), .int (nI t)]) (st := []) rfl (by decide) rfl (Nat.le_of_ble_eq_true rfl) (Nat.le_of_ble_eq_true rfl) (by decide) (by decide) (Nat.zero_le _) (Nat.zero_le _) (fun Q' h => f_onwardOfAll (by omega) h) ?_
    refine Sp.go 3 (g := (28, [(4, .int (f_all (fun n => n_on (w.a 3) (w.a 4) (w.a 5) (w.a 2) n t) (r) 0 8 0)), (5, .int (nI t)), (0, .ref 1), (1, .int (v1)), (2, .int (v2)), (3, .int (nI g))], [.int (nI g), .int (f_all (fun n => n_on (w.a 3) (w.a 4) (w.a 5) (w.a 2) n t) (r) 0 8 0)])) rfl ?_
    refine Sp.sr (some (.int (m_b2 (bt (f_all (fun n => n_on (w.a 3) (w.a 4) (w.a 5) (w.a 2) n t) (r) 0 8 0) g)))) (mw (w)) (k' := 44) (F' := 0) (N' := 0) (C' := 0) (S' := 0) (vs := [.int (f_all (fun n => n_on (w.a 3) (w.a 4) (w.a 5) (w.a 2) n t) (r) 0 8 0), .int (nI g)]) (st := []) rfl (by decide) rfl (Nat.le_of_ble_eq_true rfl) (Nat.le_of_ble_eq_true rfl) (by decide) (by decide) (Nat.zero_le _) (Nat.zero_le _) (fun Q' h => n_inSet (by omega) h) ?_
    refine Sp.ifb rfl (fun h2 => ?_) (fun h2 => ?_)
    · skip
      refine Sp.go 2 (g := (8, [(5, .int (nI t + 1)), (4, .int (f_all (fun n => n_on (w.a 3) (w.a 4) (w.a 5) (w.a 2) n t) (r) 0 8 0)), (0, .ref 1), (1, .int (v1)), (2, .int (v2)), (3, .int (nI g))], [])) rfl ?_
      rw [← nI_succ]
      refine ih (t + 1) _ (by omega) ?_
      rw [if_neg (by rw [h2]; decide)] at hq
      exact hq
    · skip
      refine Sp.go 3 (g := (38, [(4, .int (f_all (fun n => n_on (w.a 3) (w.a 4) (w.a 5) (w.a 2) n t) (r) 0 8 0)), (5, .int (nI t)), (0, .ref 1), (1, .int (v1)), (2, .int (v2)), (3, .int (nI g))], [.int ((nI t) + 1)])) rfl ?_
      refine Sp.iret rfl (Or.inl rfl) ?_
      rw [if_pos h2] at hq; rw [show f_res (some (t + 1)) = nI t + 1 from nI_succ t] at hq; exact hq
theorem f_soonestEnd {X : mX} {C S : Nat} {Q : Outcome → mM → Prop} {w : mWd} {a s g : Nat} (hs : s ≤ 64) (hg : g < 8) (hq : Q (.returned (some (.int (f_res (f_soon (n_on (w.a 3) (w.a 4) (w.a 5) (w.a 2)) g s (64 - s) ((1 : Int32) <<< (nI a &&& 31))))))) (mw w)) : Sp X 21 3 69 C S (0, [(0, .ref 1), (1, .int (nI a)), (2, .int (nI s)), (3, .int (nI g))], []) (mw w) Q := by
  refine Sp.go 6 (g := (8, [(5, .int (nI s)), (4, .int ((1 : Int32) <<< ((nI a) &&& 31))), (0, .ref 1), (1, .int (nI a)), (2, .int (nI s)), (3, .int (nI g))], [])) rfl ?_
  exact f_soon_loop hg (64 - s) s _ (by omega) hq
theorem f_set_loop {X : mX} {C S : Nat} {Q : Outcome → mM → Prop} {w : mWd} {t s : Nat} {v3 v4 : Int32} (ht : t < 64) : ∀ (d n : Nat) (acc : Int32), n + d = 8 → Sp X 23 2 45 C S (70, [(7, .int (nI 8)), (6, .int (f_set (fun n => n_on (w.a 3) (w.a 4) (w.a 5) (w.a 2) n t) (w.a 8 (t + 1)) n d acc)), (5, .int (nI t)), (0, .ref 6), (1, .ref 1), (2, .int (nI s)), (3, .int (v3)), (4, .int (v4))], []) (mw w) Q → Sp X 23 2 45 C S (27, [(7, .int (nI n)), (6, .int (acc)), (5, .int (nI t)), (0, .ref 6), (1, .ref 1), (2, .int (nI s)), (3, .int (v3)), (4, .int (v4))], []) (mw w) Q := by
  intro d
  induction d with
  | zero =>
    intro n acc hn hq
    have e : n = 8 := by omega
    subst e
    refine Sp.go 2 (g := (31, [(7, .int (nI 8)), (6, .int (acc)), (5, .int (nI t)), (0, .ref 6), (1, .ref 1), (2, .int (nI s)), (3, .int (v3)), (4, .int (v4))], [.int 8, .int (nI 8)])) rfl ?_
    refine Sp.icmp rfl (fun u1 => ?_) (fun u1 => absurd ((nI_le' (a := 8) (b := 8) (by omega) (by omega)).mpr (by omega)) u1)
    exact hq
  | succ d ih =>
    intro n acc hn hq
    refine Sp.go 2 (g := (31, [(7, .int (nI n)), (6, .int (acc)), (5, .int (nI t)), (0, .ref 6), (1, .ref 1), (2, .int (nI s)), (3, .int (v3)), (4, .int (v4))], [.int 8, .int (nI n)])) rfl ?_
    refine Sp.icmp rfl (fun u1 => absurd u1 (fun q => absurd ((nI_le' (a := 8) (b := n) (by omega) (by omega)).mp q) (by omega))) (fun u1 => ?_)
    refine Sp.go 3 (g := (39, [(7, .int (nI n)), (6, .int (acc)), (5, .int (nI t)), (0, .ref 6), (1, .ref 1), (2, .int (nI s)), (3, .int (v3)), (4, .int (v4))], [.int (nI t), .int (nI n), .ref 1])) rfl ?_
    refine Sp.vr (some (.int (n_on (w.a 3) (w.a 4) (w.a 5) (w.a 2) n t))) (mw (w)) (k' := 11) (F' := 1) (N' := 21) (C' := 0) (S' := 0) (vs := [.int (nI n), .int (nI t)]) (st := []) rfl rfl rfl rfl (Nat.le_of_ble_eq_true rfl) (Nat.le_of_ble_eq_true rfl) (by decide) (by decide) (Nat.zero_le _) (Nat.zero_le _) (fun Q' h => n_onward (by omega) (by omega) h) ?_
    refine Sp.go 1 (g := (43, [(7, .int (nI n)), (6, .int (acc)), (5, .int (nI t)), (0, .ref 6), (1, .ref 1), (2, .int (nI s)), (3, .int (v3)), (4, .int (v4))], [.ref 6, .int (n_on (w.a 3) (w.a 4) (w.a 5) (w.a 2) n t)])) rfl ?_
    refine Sp.get (v := .ref 8) rfl rfl rfl ?_
    refine Sp.go 3 (g := (50, [(7, .int (nI n)), (6, .int (acc)), (5, .int (nI t)), (0, .ref 6), (1, .ref 1), (2, .int (nI s)), (3, .int (v3)), (4, .int (v4))], [.int ((nI t) + 1), .ref 8, .int (n_on (w.a 3) (w.a 4) (w.a 5) (w.a 2) n t)])) rfl ?_
    refine Sp.iald (f := w.a 8) (j := t + 1) rfl rfl (m_ix_of (by simp only [nI, Int32.ofNat_add, Int32.ofNat_mul] <;> rfl) (by omega) (by omega)) ?_
    refine Sp.go 1 (g := (52, [(7, .int (nI n)), (6, .int (acc)), (5, .int (nI t)), (0, .ref 6), (1, .ref 1), (2, .int (nI s)), (3, .int (v3)), (4, .int (v4))], [.int ((n_on (w.a 3) (w.a 4) (w.a 5) (w.a 2) n t) &&& (w.a 8 (t + 1)))])) rfl ?_
    refine Sp.if rfl (fun (h2 : ((n_on (w.a 3) (w.a 4) (w.a 5) (w.a 2) n t) &&& (w.a 8 (t + 1)) : Int32) = (0 : Int32)) => ?_) (fun (h2 : ¬ (((n_on (w.a 3) (w.a 4) (w.a 5) (w.a 2) n t) &&& (w.a 8 (t + 1)) : Int32) = (0 : Int32))) => ?_)
    · skip
      refine Sp.go 2 (g := (27, [(7, .int (nI n + 1)), (6, .int (acc)), (5, .int (nI t)), (0, .ref 6), (1, .ref 1), (2, .int (nI s)), (3, .int (v3)), (4, .int (v4))], [])) rfl ?_
      rw [← nI_succ]
      refine ih (n + 1) _ (by omega) ?_
      simp only [f_set] at hq
      first | (rw [if_pos h2] at hq; exact hq) | (rw [if_neg h2] at hq; exact hq)
    · skip
      refine Sp.go 8 (g := (27, [(7, .int (nI n + 1)), (6, .int (acc ||| ((1 : Int32) <<< ((nI n) &&& 31)))), (5, .int (nI t)), (0, .ref 6), (1, .ref 1), (2, .int (nI s)), (3, .int (v3)), (4, .int (v4))], [])) rfl ?_
      rw [← nI_succ]
      refine ih (n + 1) _ (by omega) ?_
      simp only [f_set] at hq
      first | (rw [if_pos h2] at hq; exact hq) | (rw [if_neg h2] at hq; exact hq)
theorem nI_m1 (n : Nat) : nI n + (-1) = nI n - 1 := by rw [Int32.sub_eq_add_neg]
theorem f_lt0 {s : Nat} (h : s < 2 ^ 31) : nI (s + 0) - 1 < nI s := by
  rw [Nat.add_zero]
  cases s with
  | zero => decide
  | succ s => rw [nI_pred, nI_lt' (by omega) h]; omega
theorem f_nlt {s d : Nat} (h : s + d < 2 ^ 31) : ¬ nI (s + d) < nI s := by rw [nI_lt' h (by omega)]; omega
theorem f_lead_loop {X : mX} {C S : Nat} {Q : Outcome → mM → Prop} {s : Nat} {v3 v4 : Int32} : ∀ (d : Nat) (w : mWd), s + d ≤ 64 → Q (.returned none) (mw (w.sa 8 (f_lead (n_on (w.a 3) (w.a 4) (w.a 5) (w.a 2)) s d (w.a 8)))) → Sp X 23 2 45 C S (15, [(5, .int (nI (s + d) - 1)), (0, .ref 6), (1, .ref 1), (2, .int (nI s)), (3, .int (v3)), (4, .int (v4))], []) (mw w) Q := by
  intro d
  induction d with
  | zero =>
    intro w hd hq
    simp only [f_lead, mWd.sa_self] at hq
    refine Sp.go 2 (g := (18, [(5, .int (nI (s + 0) - 1)), (0, .ref 6), (1, .ref 1), (2, .int (nI s)), (3, .int (v3)), (4, .int (v4))], [.int (nI s), .int (nI (s + 0) - 1)])) rfl ?_
    refine Sp.icmp rfl (fun u1 => ?_) (fun u1 => absurd (f_lt0 (by omega)) u1)
    refine Sp.vret rfl rfl ?_
    exact hq
  | succ d ih =>
    intro w hd hq
    rw [show nI (s + (d + 1)) - 1 = nI (s + d) from nI_pred (s + d)]
    refine Sp.go 2 (g := (18, [(5, .int (nI (s + d))), (0, .ref 6), (1, .ref 1), (2, .int (nI s)), (3, .int (v3)), (4, .int (v4))], [.int (nI s), .int (nI (s + d))])) rfl ?_
    refine Sp.icmp rfl (fun u1 => absurd u1 (f_nlt (by omega))) (fun u1 => ?_)
    refine Sp.go 4 (g := (27, [(7, .int 0), (6, .int 0), (5, .int (nI (s + d))), (0, .ref 6), (1, .ref 1), (2, .int (nI s)), (3, .int (v3)), (4, .int (v4))], [])) rfl ?_
    refine f_set_loop (by omega) 8 0 0 rfl ?_
    refine Sp.go 1 (g := (71, [(7, .int (nI 8)), (6, .int (f_set (fun n => n_on (w.a 3) (w.a 4) (w.a 5) (w.a 2) n (s + d)) (w.a 8 (s + d + 1)) 0 8 0)), (5, .int (nI (s + d))), (0, .ref 6), (1, .ref 1), (2, .int (nI s)), (3, .int (v3)), (4, .int (v4))], [.ref 6])) rfl ?_
    refine Sp.get (v := .ref 8) rfl rfl rfl ?_
    refine Sp.go 2 (g := (78, [(7, .int (nI 8)), (6, .int (f_set (fun n => n_on (w.a 3) (w.a 4) (w.a 5) (w.a 2) n (s + d)) (w.a 8 (s + d + 1)) 0 8 0)), (5, .int (nI (s + d))), (0, .ref 6), (1, .ref 1), (2, .int (nI s)), (3, .int (v3)), (4, .int (v4))], [.int (f_set (fun n => n_on (w.a 3) (w.a 4) (w.a 5) (w.a 2) n (s + d)) (w.a 8 (s + d + 1)) 0 8 0), .int (nI (s + d)), .ref 8])) rfl ?_
    refine Sp.pa8 (j := s + d) rfl (m_ix_of (by simp only [nI, Int32.ofNat_add, Int32.ofNat_mul] <;> rfl) (by omega) (by omega)) ?_
    refine Sp.go 2 (g := (15, [(5, .int (nI (s + d) + (-1))), (7, .int (nI 8)), (6, .int (f_set (fun n => n_on (w.a 3) (w.a 4) (w.a 5) (w.a 2) n (s + d)) (w.a 8 (s + d + 1)) 0 8 0)), (0, .ref 6), (1, .ref 1), (2, .int (nI s)), (3, .int (v3)), (4, .int (v4))], [])) rfl ?_
    refine Sp.lsub [0, 3, 4, 5, 6, 7] (ls' := [(5, .int (nI (s + d) + (-1))), (0, .ref 6), (1, .ref 1), (2, .int (nI s)), (3, .int (v3)), (4, .int (v4))]) rfl ?_
    rw [nI_m1]
    refine ih (w.sa 8 (upd (w.a 8) (s + d) (f_set (fun n => n_on (w.a 3) (w.a 4) (w.a 5) (w.a 2) n (s + d)) (w.a 8 (s + d + 1)) 0 8 0))) (by omega) ?_
    simp only [f_lead] at hq
    refine Eq.mp (congrArg (fun z => Q _ (mw z)) ?_) hq
    rw [mWd.sa_sa]
    rfl
theorem f_markLeading {X : mX} {C S : Nat} {Q : Outcome → mM → Prop} {w : mWd} {s e g : Nat} (hs : s < e) (he : e ≤ 64) (hq : Q (.returned none) (mw (w.sa 8 (f_lead (n_on (w.a 3) (w.a 4) (w.a 5) (w.a 2)) s (e - s) (upd (w.a 8) e ((1 : Int32) <<< (nI g &&& 31))))))) : Sp X 23 2 45 C S (0, [(0, .ref 6), (1, .ref 1), (2, .int (nI s)), (3, .int (nI e)), (4, .int (nI g))], []) (mw w) Q := by
  refine Sp.go 1 (g := (1, [(0, .ref 6), (1, .ref 1), (2, .int (nI s)), (3, .int (nI e)), (4, .int (nI g))], [.ref 6])) rfl ?_
  refine Sp.get (v := .ref 8) rfl rfl rfl ?_
  refine Sp.go 4 (g := (9, [(0, .ref 6), (1, .ref 1), (2, .int (nI s)), (3, .int (nI e)), (4, .int (nI g))], [.int ((1 : Int32) <<< ((nI g) &&& 31)), .int (nI e), .ref 8])) rfl ?_
  refine Sp.pa8 (j := e) rfl (m_ix_of (by simp only [nI, Int32.ofNat_add, Int32.ofNat_mul] <;> rfl) (by omega) (by omega)) ?_
  refine Sp.go 4 (g := (15, [(5, .int ((nI e) - 1)), (0, .ref 6), (1, .ref 1), (2, .int (nI s)), (3, .int (nI e)), (4, .int (nI g))], [])) rfl ?_
  rw [show nI e - 1 = nI (s + (e - s)) - 1 by rw [show s + (e - s) = e by omega]]
  refine f_lead_loop (e - s) (w.sa 8 (upd (w.a 8) e ((1 : Int32) <<< ((nI g) &&& 31)))) (by omega) ?_
  refine Eq.mp (congrArg (fun z => Q _ (mw z)) ?_) hq
  rw [mWd.sa_sa]
  rfl
theorem f_walk_loop {X : mX} {C S : Nat} {Q : Outcome → mM → Prop} {e : Nat} {v2 v3 : Int32} (he : e ≤ 64) : ∀ (d t n : Nat) (w : mWd), t + d = e → n < 8 → w.a 7 t = nI n → Q (.returned none) (mw (w.sa 7 (f_walk (n_on (w.a 3) (w.a 4) (w.a 5) (w.a 2)) (w.a 8) t d n (w.a 7)))) → Sp X 24 2 45 C S (10, [(5, .int (nI t)), (0, .ref 6), (1, .ref 1), (2, .int (v2)), (3, .int (v3)), (4, .int (nI e))], []) (mw w) Q := by
  intro d
  induction d with
  | zero =>
    intro t n w ht hn hw hq
    simp only [f_walk, mWd.sa_self] at hq
    refine Sp.go 2 (g := (14, [(5, .int (nI t)), (0, .ref 6), (1, .ref 1), (2, .int (v2)), (3, .int (v3)), (4, .int (nI e))], [.int (nI e), .int (nI t)])) rfl ?_
    refine Sp.icmp rfl (fun u1 => ?_) (fun u1 => absurd ((nI_le' (a := e) (b := t) (by omega) (by omega)).mpr (by omega)) u1)
    refine Sp.vret rfl rfl ?_
    exact hq
  | succ d ih =>
    intro t n w ht hn hw hq
    refine Sp.go 2 (g := (14, [(5, .int (nI t)), (0, .ref 6), (1, .ref 1), (2, .int (v2)), (3, .int (v3)), (4, .int (nI e))], [.int (nI e), .int (nI t)])) rfl ?_
    refine Sp.icmp rfl (fun u1 => absurd u1 (fun q => absurd ((nI_le' (a := e) (b := t) (by omega) (by omega)).mp q) (by omega))) (fun u1 => ?_)
    refine Sp.go 1 (g := (18, [(5, .int (nI t)), (0, .ref 6), (1, .ref 1), (2, .int (v2)), (3, .int (v3)), (4, .int (nI e))], [.ref 6])) rfl ?_
    refine Sp.get (v := .ref 7) rfl rfl rfl ?_
    refine Sp.go 5 (g := (27, [(5, .int (nI t)), (0, .ref 6), (1, .ref 1), (2, .int (v2)), (3, .int (v3)), (4, .int (nI e))], [.ref 6, .ref 1, .int ((nI t) + 1), .ref 7])) rfl ?_
    refine Sp.get (v := .ref 7) rfl rfl rfl ?_
    refine Sp.go 1 (g := (32, [(5, .int (nI t)), (0, .ref 6), (1, .ref 1), (2, .int (v2)), (3, .int (v3)), (4, .int (nI e))], [.int (nI t), .ref 7, .ref 1, .int ((nI t) + 1), .ref 7])) rfl ?_
    refine Sp.iald (f := w.a 7) (j := t) rfl rfl (m_ix_of (by simp only [nI, Int32.ofNat_add, Int32.ofNat_mul] <;> rfl) (by omega) (by omega)) ?_
    rw [hw]
    refine Sp.go 1 (g := (35, [(5, .int (nI t)), (0, .ref 6), (1, .ref 1), (2, .int (v2)), (3, .int (v3)), (4, .int (nI e))], [.int (nI t), .int (nI n), .ref 1, .int ((nI t) + 1), .ref 7])) rfl ?_
    refine Sp.vr (some (.int (n_on (w.a 3) (w.a 4) (w.a 5) (w.a 2) n t))) (mw (w)) (k' := 11) (F' := 1) (N' := 21) (C' := 0) (S' := 0) (vs := [.int (nI n), .int (nI t)]) (st := [.int ((nI t) + 1), .ref 7]) rfl rfl rfl rfl (Nat.le_of_ble_eq_true rfl) (Nat.le_of_ble_eq_true rfl) (by decide) (by decide) (Nat.zero_le _) (Nat.zero_le _) (fun Q' h => n_onward (by omega) (by omega) h) ?_
    refine Sp.go 1 (g := (39, [(5, .int (nI t)), (0, .ref 6), (1, .ref 1), (2, .int (v2)), (3, .int (v3)), (4, .int (nI e))], [.ref 6, .int (n_on (w.a 3) (w.a 4) (w.a 5) (w.a 2) n t), .int ((nI t) + 1), .ref 7])) rfl ?_
    refine Sp.get (v := .ref 8) rfl rfl rfl ?_
    refine Sp.go 3 (g := (46, [(5, .int (nI t)), (0, .ref 6), (1, .ref 1), (2, .int (v2)), (3, .int (v3)), (4, .int (nI e))], [.int ((nI t) + 1), .ref 8, .int (n_on (w.a 3) (w.a 4) (w.a 5) (w.a 2) n t), .int ((nI t) + 1), .ref 7])) rfl ?_
    refine Sp.iald (f := w.a 8) (j := t + 1) rfl rfl (m_ix_of (by simp only [nI, Int32.ofNat_add, Int32.ofNat_mul] <;> rfl) (by omega) (by omega)) ?_
    refine Sp.go 1 (g := (48, [(5, .int (nI t)), (0, .ref 6), (1, .ref 1), (2, .int (v2)), (3, .int (v3)), (4, .int (nI e))], [.int ((n_on (w.a 3) (w.a 4) (w.a 5) (w.a 2) n t) &&& (w.a 8 (t + 1))), .int ((nI t) + 1), .ref 7])) rfl ?_
    refine Sp.sr (some (.int (nI (f_least ((n_on (w.a 3) (w.a 4) (w.a 5) (w.a 2) n t) &&& (w.a 8 (t + 1))) 0 7)))) (mw (w)) (k' := 25) (F' := 1) (N' := 21) (C' := 0) (S' := 0) (vs := [.int ((n_on (w.a 3) (w.a 4) (w.a 5) (w.a 2) n t) &&& (w.a 8 (t + 1)))]) (st := [.int ((nI t) + 1), .ref 7]) rfl (by decide) rfl (Nat.le_of_ble_eq_true rfl) (Nat.le_of_ble_eq_true rfl) (by decide) (by decide) (Nat.zero_le _) (Nat.zero_le _) (fun Q' h => f_leastOf h) ?_
    refine Sp.pa7 (j := t + 1) rfl (m_ix_of (by simp only [nI, Int32.ofNat_add, Int32.ofNat_mul] <;> rfl) (by omega) (by omega)) ?_
    refine Sp.go 2 (g := (10, [(5, .int (nI t + 1)), (0, .ref 6), (1, .ref 1), (2, .int (v2)), (3, .int (v3)), (4, .int (nI e))], [])) rfl ?_
    rw [← nI_succ]
    refine ih (t + 1) (f_least (n_on (w.a 3) (w.a 4) (w.a 5) (w.a 2) n t &&& w.a 8 (t + 1)) 0 7) (w.sa 7 (upd (w.a 7) (t + 1) (nI (f_least ((n_on (w.a 3) (w.a 4) (w.a 5) (w.a 2) n t) &&& (w.a 8 (t + 1))) 0 7)))) (by omega) (by have := f_least_le (n_on (w.a 3) (w.a 4) (w.a 5) (w.a 2) n t &&& w.a 8 (t + 1)) 7 0; omega) (by show upd _ _ _ _ = _; simp [upd]) ?_
    simp only [f_walk] at hq
    refine Eq.mp (congrArg (fun z => Q _ (mw z)) ?_) hq
    rw [mWd.sa_sa]
    rfl
theorem f_walkT {X : mX} {C S : Nat} {Q : Outcome → mM → Prop} {w : mWd} {a s e : Nat} (ha : a < 8) (hs : s ≤ e) (he : e ≤ 64) (hq : Q (.returned none) (mw (w.sa 7 (f_walk (n_on (w.a 3) (w.a 4) (w.a 5) (w.a 2)) (w.a 8) s (e - s) a (upd (w.a 7) s (nI a)))))) : Sp X 24 2 45 C S (0, [(0, .ref 6), (1, .ref 1), (2, .int (nI a)), (3, .int (nI s)), (4, .int (nI e))], []) (mw w) Q := by
  refine Sp.go 1 (g := (1, [(0, .ref 6), (1, .ref 1), (2, .int (nI a)), (3, .int (nI s)), (4, .int (nI e))], [.ref 6])) rfl ?_
  refine Sp.get (v := .ref 7) rfl rfl rfl ?_
  refine Sp.go 2 (g := (6, [(0, .ref 6), (1, .ref 1), (2, .int (nI a)), (3, .int (nI s)), (4, .int (nI e))], [.int (nI a), .int (nI s), .ref 7])) rfl ?_
  refine Sp.pa7 (j := s) rfl (m_ix_of (by simp only [nI, Int32.ofNat_add, Int32.ofNat_mul] <;> rfl) (by omega) (by omega)) ?_
  refine Sp.go 2 (g := (10, [(5, .int (nI s)), (0, .ref 6), (1, .ref 1), (2, .int (nI a)), (3, .int (nI s)), (4, .int (nI e))], [])) rfl ?_
  refine f_walk_loop he (e - s) s a (w.sa 7 (upd (w.a 7) s (nI a))) (by omega) ha (by show upd _ _ _ _ = _; simp [upd]) ?_
  refine Eq.mp (congrArg (fun z => Q _ (mw z)) ?_) hq
  rw [mWd.sa_sa]
  rfl
end
section
/-! The finder: seek. Rows laid by wip/gen/seek.py. -/
theorem f_soon_in (on : Nat → Nat → Int32) (g : Nat) : ∀ (d t : Nat) (r : Int32) (e : Nat), f_soon on g t d r = some e → t < e ∧ e ≤ t + d := by
  intro d
  induction d with
  | zero => intro t r e h; cases h
  | succ d ih =>
    intro t r e h
    unfold f_soon at h
    split at h
    · cases h; omega
    · have := ih _ _ _ h
      omega
/-- the steps that can be taken, by the sets of the network -/
def w_on (w : mWd) : Nat → Nat → Int32 := n_on (w.a 3) (w.a 4) (w.a 5) (w.a 2)
/-- the end of the best way, as the finder finds it -/
def w_end (w : mWd) (a s g : Nat) : Option Nat := f_soon (w_on w) g s (64 - s) ((1 : Int32) <<< (nI a &&& 31))
def w_lead (w : mWd) (s e g : Nat) : Nat → Int32 := f_lead (w_on w) s (e - s) (upd (w.a 8) e ((1 : Int32) <<< (nI g &&& 31)))
def w_way (w : mWd) (a s e g : Nat) : Nat → Int32 := f_walk (w_on w) (w_lead w s e g) s (e - s) a (upd (w.a 7) s (nI a))
/-- behind a search that found an end -/
def w_sought (w : mWd) (a s e g : Nat) : mWd := (w.sa 8 (w_lead w s e g)).sa 7 (w_way w a s e g)
theorem f_seek_none {X : mX} {C S : Nat} {Q : Outcome → mM → Prop} {w : mWd} {a s g : Nat} (hs : s < 64) (hg : g < 8) (ho : w_end w a s g = none) (hq : Q (.returned (some (.int (-1)))) (mw w)) : Sp X 20 4 94 C S (0, [(0, .ref 6), (1, .ref 1), (2, .int (nI a)), (3, .int (nI s)), (4, .int (nI g))], []) (mw w) Q := by
  refine Sp.go 4 (g := (5, [(0, .ref 6), (1, .ref 1), (2, .int (nI a)), (3, .int (nI s)), (4, .int (nI g))], [.int (nI g), .int (nI s), .int (nI a), .ref 1])) rfl ?_
  refine Sp.sr (some (.int (-1))) (mw (w)) (k' := 21) (F' := 3) (N' := 69) (C' := 0) (S' := 0) (vs := [.ref 1, .int (nI a), .int (nI s), .int (nI g)]) (st := []) rfl (by decide) rfl (Nat.le_of_ble_eq_true rfl) (Nat.le_of_ble_eq_true rfl) (by decide) (by decide) (Nat.zero_le _) (Nat.zero_le _) (fun Q' h => f_soonestEnd (by omega) (by omega) (by rw [show f_soon (n_on (w.a 3) (w.a 4) (w.a 5) (w.a 2)) g s (64 - s) ((1 : Int32) <<< (nI a &&& 31)) = none from ho]; exact h)) ?_
  refine Sp.go 3 (g := (13, [(5, .int (-1)), (0, .ref 6), (1, .ref 1), (2, .int (nI a)), (3, .int (nI s)), (4, .int (nI g))], [.int (-1), .int (-1)])) rfl ?_
  refine Sp.icmp rfl (fun u1 => ?_) (fun u1 => absurd rfl u1)
  refine Sp.go 1 (g := (37, [(5, .int (-1)), (0, .ref 6), (1, .ref 1), (2, .int (nI a)), (3, .int (nI s)), (4, .int (nI g))], [.int (-1)])) rfl ?_
  refine Sp.iret rfl (Or.inl rfl) ?_
  exact hq
theorem f_ne1 {n : Nat} (h : n < 2 ^ 31) : ¬ nI n = -1 := by
  intro q
  have := congrArg Int32.toInt q
  rw [nI_toInt h] at this
  have e : (-1 : Int32).toInt = -1 := by decide
  omega
theorem f_seek_some {X : mX} {C S : Nat} {Q : Outcome → mM → Prop} {w : mWd} {a s g e : Nat} (ha : a < 8) (hs : s < 64) (hg : g < 8) (ho : w_end w a s g = some e) (hq : Q (.returned (some (.int (nI e)))) (mw (w_sought w a s e g))) : Sp X 20 4 94 C S (0, [(0, .ref 6), (1, .ref 1), (2, .int (nI a)), (3, .int (nI s)), (4, .int (nI g))], []) (mw w) Q := by
  have he := f_soon_in _ _ _ _ _ _ ho
  refine Sp.go 4 (g := (5, [(0, .ref 6), (1, .ref 1), (2, .int (nI a)), (3, .int (nI s)), (4, .int (nI g))], [.int (nI g), .int (nI s), .int (nI a), .ref 1])) rfl ?_
  refine Sp.sr (some (.int (nI e))) (mw (w)) (k' := 21) (F' := 3) (N' := 69) (C' := 0) (S' := 0) (vs := [.ref 1, .int (nI a), .int (nI s), .int (nI g)]) (st := []) rfl (by decide) rfl (Nat.le_of_ble_eq_true rfl) (Nat.le_of_ble_eq_true rfl) (by decide) (by decide) (Nat.zero_le _) (Nat.zero_le _) (fun Q' h => f_soonestEnd (by omega) (by omega) (by rw [show f_soon (n_on (w.a 3) (w.a 4) (w.a 5) (w.a 2)) g s (64 - s) ((1 : Int32) <<< (nI a &&& 31)) = some e from ho]; exact h)) ?_
  refine Sp.go 3 (g := (13, [(5, .int (nI e)), (0, .ref 6), (1, .ref 1), (2, .int (nI a)), (3, .int (nI s)), (4, .int (nI g))], [.int (-1), .int (nI e)])) rfl ?_
  refine Sp.icmp rfl (fun u1 => absurd u1 (f_ne1 (by omega))) (fun u1 => ?_)
  refine Sp.go 5 (g := (23, [(5, .int (nI e)), (0, .ref 6), (1, .ref 1), (2, .int (nI a)), (3, .int (nI s)), (4, .int (nI g))], [.int (nI g), .int (nI e), .int (nI s), .ref 1, .ref 6])) rfl ?_
  refine Sp.vr none (mw (w.sa 8 (w_lead w s e g))) (k' := 23) (F' := 2) (N' := 45) (C' := 0) (S' := 0) (vs := [.ref 1, .int (nI s), .int (nI e), .int (nI g)]) (st := []) rfl rfl rfl rfl (Nat.le_of_ble_eq_true rfl) (Nat.le_of_ble_eq_true rfl) (by decide) (by decide) (Nat.zero_le _) (Nat.zero_le _) (fun Q' h => f_markLeading (by omega) (by omega) h) ?_
  refine Sp.go 5 (g := (32, [(5, .int (nI e)), (0, .ref 6), (1, .ref 1), (2, .int (nI a)), (3, .int (nI s)), (4, .int (nI g))], [.int (nI e), .int (nI s), .int (nI a), .ref 1, .ref 6])) rfl ?_
  refine Sp.vr none (mw (((w).sa 8 (w_lead w s e g)).sa 7 (w_way w a s e g))) (k' := 24) (F' := 2) (N' := 45) (C' := 0) (S' := 0) (vs := [.ref 1, .int (nI a), .int (nI s), .int (nI e)]) (st := []) rfl rfl rfl rfl (Nat.le_of_ble_eq_true rfl) (Nat.le_of_ble_eq_true rfl) (by decide) (by decide) (Nat.zero_le _) (Nat.zero_le _) (fun Q' h => f_walkT (by omega) (by omega) (by omega) h) ?_
  refine Sp.go 1 (g := (37, [(5, .int (nI e)), (0, .ref 6), (1, .ref 1), (2, .int (nI a)), (3, .int (nI s)), (4, .int (nI g))], [.int (nI e)])) rfl ?_
  refine Sp.iret rfl (Or.inl rfl) ?_
  exact hq
end
section
/-! Parcels. Rows laid by wip/gen/parcel.py. A parcel lies at a later cell n, its row of nodes behind it. -/
/-- what time tells of a parcel: at t, last l, fate f, tick k -/
def p_state (t l f k : Int32) : Int32 := if f = 0 then (if t ≤ k then (if l ≤ k then 3 else 2) else 1) else f
def p_live (t l f k : Int32) : Bool := decide (p_state t l f k = 1) || decide (p_state t l f k = 2)
def p_node (nd : Nat → Int32) (t l k : Int32) : Int32 := if k < t then -1 else if l < k then -1 else nd k.toNatClampNeg
theorem p_max {a b : Nat} (ha : a < 2 ^ 31) (hb : b < 2 ^ 31) : (if nI a < nI b then nI b else nI a) = nI (max a b) := by
  by_cases h : a < b
  · rw [if_pos ((nI_lt' ha hb).mpr h), Nat.max_eq_right (by omega)]
  · rw [if_neg (fun q => h ((nI_lt' ha hb).mp q)), Nat.max_eq_left (by omega)]
theorem p_stateAt {X : mX} {C S : Nat} {Q : Outcome → mM → Prop} {w : mWd} {n : Nat} {g f : Int32} {t l k : Int32} (hp : w.d n = some (.inr (1, [.int g, .int (t), .ref (n + 24), .int (l), .int f]))) (hq : Q (.returned (some (.int (p_state t l f k)))) (mw w)) : Sp X 15 0 0 C S (0, [(0, .ref (n + 23)), (1, .int (k))], []) (mw w) Q := by
  refine Sp.go 1 (g := (1, [(0, .ref (n + 23)), (1, .int (k))], [.ref (n + 23)])) rfl ?_
  refine Sp.get (v := .int (f)) rfl hp rfl ?_
  refine Sp.if rfl (fun (h1 : (f : Int32) = (0 : Int32)) => ?_) (fun (h1 : ¬ ((f : Int32) = (0 : Int32))) => ?_)
  · skip
    refine Sp.go 2 (g := (14, [(0, .ref (n + 23)), (1, .int (k))], [.ref (n + 23), .int (k)])) rfl ?_
    refine Sp.get (v := .int (t)) rfl hp rfl ?_
    refine Sp.icmp rfl (fun (h2 : (t : Int32) ≤ (k : Int32)) => ?_) (fun (h2 : ¬ ((t : Int32) ≤ (k : Int32))) => ?_)
    · skip
      refine Sp.go 2 (g := (24, [(0, .ref (n + 23)), (1, .int (k))], [.ref (n + 23), .int (k)])) rfl ?_
      refine Sp.get (v := .int (l)) rfl hp rfl ?_
      refine Sp.icmp rfl (fun (h3 : (l : Int32) ≤ (k : Int32)) => ?_) (fun (h3 : ¬ ((l : Int32) ≤ (k : Int32))) => ?_)
      · skip
        refine Sp.go 1 (g := (35, [(0, .ref (n + 23)), (1, .int (k))], [.int 3])) rfl ?_
        refine Sp.iret rfl (Or.inl rfl) ?_
        unfold p_state at hq; rw [if_pos h1, if_pos h2, if_pos h3] at hq; exact hq
      · skip
        refine Sp.go 2 (g := (35, [(0, .ref (n + 23)), (1, .int (k))], [.int 2])) rfl ?_
        refine Sp.iret rfl (Or.inl rfl) ?_
        unfold p_state at hq; rw [if_pos h1, if_pos h2, if_neg h3] at hq; exact hq
    · skip
      refine Sp.go 1 (g := (21, [(0, .ref (n + 23)), (1, .int (k))], [.int 1])) rfl ?_
      refine Sp.iret rfl (Or.inl rfl) ?_
      unfold p_state at hq; rw [if_pos h1, if_neg h2] at hq; exact hq
  · skip
    refine Sp.go 1 (g := (8, [(0, .ref (n + 23)), (1, .int (k))], [.ref (n + 23)])) rfl ?_
    refine Sp.get (v := .int (f)) rfl hp rfl ?_
    refine Sp.iret rfl (Or.inl rfl) ?_
    unfold p_state at hq; rw [if_neg h1] at hq; exact hq
theorem p_isUnderWay {X : mX} {C S : Nat} {Q : Outcome → mM → Prop} {w : mWd} {n : Nat} {g f : Int32} {t l k : Int32} (hp : w.d n = some (.inr (1, [.int g, .int (t), .ref (n + 24), .int (l), .int f]))) (hq : Q (.returned (some (.int (m_b2 (p_live t l f k))))) (mw w)) : Sp X 16 1 21 C S (0, [(0, .ref (n + 23)), (1, .int (k))], []) (mw w) Q := by
  refine Sp.go 2 (g := (2, [(0, .ref (n + 23)), (1, .int (k))], [.int (k), .ref (n + 23)])) rfl ?_
  refine Sp.vr (some (.int (p_state (t) (l) (f) (k)))) (mw (w)) (k' := 15) (F' := 0) (N' := 0) (C' := 0) (S' := 0) (vs := [.int (k)]) (st := []) rfl hp rfl rfl (Nat.le_of_ble_eq_true rfl) (Nat.le_of_ble_eq_true rfl) (by decide) (by decide) (Nat.zero_le _) (Nat.zero_le _) (fun Q' h => p_stateAt hp h) ?_
  refine Sp.go 3 (g := (8, [(2, .int (p_state (t) (l) (f) (k))), (0, .ref (n + 23)), (1, .int (k))], [.int 1, .int (p_state (t) (l) (f) (k))])) rfl ?_
  refine Sp.icmp rfl (fun (h1 : (p_state (t) (l) (f) (k) : Int32) = (1 : Int32)) => ?_) (fun (h1 : ¬ ((p_state (t) (l) (f) (k) : Int32) = (1 : Int32))) => ?_)
  · skip
    refine Sp.go 2 (g := (21, [(2, .int (p_state (t) (l) (f) (k))), (0, .ref (n + 23)), (1, .int (k))], [.int 1])) rfl ?_
    refine Sp.iret rfl (Or.inr ⟨rfl, Or.inr rfl⟩) ?_
    rw [show p_live t l f k = true by simp [p_live, h1]] at hq; exact hq
  · skip
    refine Sp.go 2 (g := (13, [(2, .int (p_state (t) (l) (f) (k))), (0, .ref (n + 23)), (1, .int (k))], [.int 2, .int (p_state (t) (l) (f) (k))])) rfl ?_
    refine Sp.icmp rfl (fun (h2 : ¬ (p_state (t) (l) (f) (k) : Int32) = (2 : Int32)) => ?_) (fun (h2 : ¬ (¬ (p_state (t) (l) (f) (k) : Int32) = (2 : Int32))) => ?_)
    · skip
      refine Sp.go 1 (g := (21, [(2, .int (p_state (t) (l) (f) (k))), (0, .ref (n + 23)), (1, .int (k))], [.int 0])) rfl ?_
      refine Sp.iret rfl (Or.inr ⟨rfl, Or.inl rfl⟩) ?_
      rw [show p_live t l f k = false by simp [p_live, h1, h2]] at hq; exact hq
    · skip
      refine Sp.go 2 (g := (21, [(2, .int (p_state (t) (l) (f) (k))), (0, .ref (n + 23)), (1, .int (k))], [.int 1])) rfl ?_
      refine Sp.iret rfl (Or.inr ⟨rfl, Or.inr rfl⟩) ?_
      rw [show p_live t l f k = true by simp [p_live, Classical.not_not.mp h2]] at hq; exact hq
theorem p_idx {t l k : Int32} {e : Nat} (h0 : ¬ t < 0) (h1 : ¬ k < t) (h2 : ¬ l < k) (hl : l ≤ nI e) (he : e < 65) : k = nI k.toNatClampNeg ∧ k.toNatClampNeg < 65 := by
  have a1 : ¬ k < 0 := by
    rw [Int32.lt_iff_toInt_lt] at h0 h1 ⊢
    rw [Int32.toInt_zero] at h0 ⊢
    omega
  have a2 := m_nat a1
  refine ⟨a2, ?_⟩
  have a3 : k.toNatClampNeg < 2 ^ 31 := by
    have := Int32.toInt_lt k
    show k.toInt.toNat < 2 ^ 31
    omega
  have a4 : k ≤ nI e := by
    rw [Int32.lt_iff_toInt_lt] at h2
    rw [Int32.le_iff_toInt_le] at hl ⊢
    omega
  rw [a2, nI_le' a3 (by omega)] at a4
  omega
theorem p_nodeFor {X : mX} {C S : Nat} {Q : Outcome → mM → Prop} {w : mWd} {n : Nat} {g f : Int32} {nd : Nat → Int32} {t l k : Int32} {e : Nat} (h0 : ¬ t < 0) (hl : l ≤ nI e) (he : e < 65) (hp : w.d n = some (.inr (1, [.int g, .int (t), .ref (n + 24), .int (l), .int f]))) (hn : w.d (n + 1) = some (.inl (0, 65, .inl nd))) (hq : Q (.returned (some (.int (p_node nd t l k)))) (mw w)) : Sp X 17 0 0 C S (0, [(0, .ref (n + 23)), (1, .int (k))], []) (mw w) Q := by
  refine Sp.go 2 (g := (2, [(0, .ref (n + 23)), (1, .int (k))], [.ref (n + 23), .int (k)])) rfl ?_
  refine Sp.get (v := .int (t)) rfl hp rfl ?_
  refine Sp.icmp rfl (fun (h1 : (k : Int32) < (t : Int32)) => ?_) (fun (h1 : ¬ ((k : Int32) < (t : Int32))) => ?_)
  · skip
    refine Sp.go 1 (g := (26, [(0, .ref (n + 23)), (1, .int (k))], [.int (-1)])) rfl ?_
    refine Sp.iret rfl (Or.inl rfl) ?_
    unfold p_node at hq; rw [if_pos h1] at hq; exact hq
  · skip
    refine Sp.go 2 (g := (10, [(0, .ref (n + 23)), (1, .int (k))], [.ref (n + 23), .int (k)])) rfl ?_
    refine Sp.get (v := .int (l)) rfl hp rfl ?_
    refine Sp.icmp rfl (fun (h2 : (l : Int32) < (k : Int32)) => ?_) (fun (h2 : ¬ ((l : Int32) < (k : Int32))) => ?_)
    · skip
      refine Sp.go 1 (g := (26, [(0, .ref (n + 23)), (1, .int (k))], [.int (-1)])) rfl ?_
      refine Sp.iret rfl (Or.inl rfl) ?_
      unfold p_node at hq; rw [if_neg h1, if_pos h2] at hq; exact hq
    · skip
      refine Sp.go 1 (g := (17, [(0, .ref (n + 23)), (1, .int (k))], [.ref (n + 23)])) rfl ?_
      refine Sp.get (v := .ref (n + 24)) rfl hp rfl ?_
      refine Sp.go 1 (g := (21, [(0, .ref (n + 23)), (1, .int (k))], [.int (k), .ref (n + 24)])) rfl ?_
      refine Sp.iald (f := nd) (j := k.toNatClampNeg) rfl hn (m_ix_of (p_idx h0 h1 h2 hl he).1 (p_idx h0 h1 h2 hl he).2 (by omega)) ?_
      refine Sp.go 1 (g := (26, [(0, .ref (n + 23)), (1, .int (k))], [.int (nd (k.toNatClampNeg))])) rfl ?_
      refine Sp.iret rfl (Or.inl rfl) ?_
      unfold p_node at hq; rw [if_neg h1, if_neg h2] at hq; exact hq
def p_step (nd : Nat → Int32) (a b : Int32) (i : Nat) : Bool := (decide (nd i = a) && decide (nd (i + 1) = b)) || (decide (nd i = b) && decide (nd (i + 1) = a))
theorem p_uses_loop {X : mX} {C S : Nat} {Q : Outcome → mM → Prop} {w : mWd} {n : Nat} {g f : Int32} {nd : Nat → Int32} {a b v3 t : Int32} {e : Nat} (he : e ≤ 64) (hp : w.d n = some (.inr (1, [.int g, .int (t), .ref (n + 24), .int (nI e), .int f]))) (hn : w.d (n + 1) = some (.inl (0, 65, .inl nd)))  : ∀ (d i : Nat), i < 65 → i + d = max i e → Q (.returned (some (.int (m_b2 (m_any (p_step nd a b) i d))))) (mw w) → Sp X 18 1 21 C S (10, [(4, .int (nI i)), (0, .ref (n + 23)), (1, .int (a)), (2, .int (b)), (3, .int (v3))], []) (mw w) Q := by
  intro d
  induction d with
  | zero =>
    intro i h65 hi hq
    refine Sp.go 2 (g := (13, [(4, .int (nI i)), (0, .ref (n + 23)), (1, .int (a)), (2, .int (b)), (3, .int (v3))], [.ref (n + 23), .int (nI i)])) rfl ?_
    refine Sp.get (v := .int (nI e)) rfl hp rfl ?_
    refine Sp.icmp rfl (fun u1 => ?_) (fun u1 => absurd ((nI_le' (a := e) (b := i) (by omega) (by omega)).mpr (by omega)) u1)
    refine Sp.go 1 (g := (100, [(4, .int (nI i)), (0, .ref (n + 23)), (1, .int (a)), (2, .int (b)), (3, .int (v3))], [.int 0])) rfl ?_
    refine Sp.iret rfl (Or.inr ⟨rfl, Or.inl rfl⟩) ?_
    exact hq
  | succ d ih =>
    intro i h65 hi hq
    have hie : i < e := by omega
    simp only [m_any] at hq
    refine Sp.go 2 (g := (13, [(4, .int (nI i)), (0, .ref (n + 23)), (1, .int (a)), (2, .int (b)), (3, .int (v3))], [.ref (n + 23), .int (nI i)])) rfl ?_
    refine Sp.get (v := .int (nI e)) rfl hp rfl ?_
    refine Sp.icmp rfl (fun u1 => absurd u1 (fun q => absurd ((nI_le' (a := e) (b := i) (by omega) (by omega)).mp q) (by omega))) (fun u1 => ?_)
    refine Sp.go 1 (g := (20, [(4, .int (nI i)), (0, .ref (n + 23)), (1, .int (a)), (2, .int (b)), (3, .int (v3))], [.ref (n + 23)])) rfl ?_
    refine Sp.get (v := .ref (n + 24)) rfl hp rfl ?_
    refine Sp.go 1 (g := (25, [(4, .int (nI i)), (0, .ref (n + 23)), (1, .int (a)), (2, .int (b)), (3, .int (v3))], [.int (nI i), .ref (n + 24)])) rfl ?_
    refine Sp.iald (f := nd) (j := i) rfl hn (m_ix_of (by simp only [nI, Int32.ofNat_add, Int32.ofNat_mul] <;> rfl) (by omega) (by omega)) ?_
    refine Sp.go 1 (g := (27, [(4, .int (nI i)), (0, .ref (n + 23)), (1, .int (a)), (2, .int (b)), (3, .int (v3))], [.int (a), .int (nd i)])) rfl ?_
    refine Sp.icmp rfl (fun (h2 : ¬ (nd i : Int32) = (a : Int32)) => ?_) (fun (h2 : ¬ (¬ (nd i : Int32) = (a : Int32))) => ?_)
    · skip
      refine Sp.go 3 (g := (51, [(5, .int 0), (4, .int (nI i)), (0, .ref (n + 23)), (1, .int (a)), (2, .int (b)), (3, .int (v3))], [.ref (n + 23)])) rfl ?_
      refine Sp.get (v := .ref (n + 24)) rfl hp rfl ?_
      refine Sp.go 1 (g := (56, [(5, .int 0), (4, .int (nI i)), (0, .ref (n + 23)), (1, .int (a)), (2, .int (b)), (3, .int (v3))], [.int (nI i), .ref (n + 24)])) rfl ?_
      refine Sp.iald (f := nd) (j := i) rfl hn (m_ix_of (by simp only [nI, Int32.ofNat_add, Int32.ofNat_mul] <;> rfl) (by omega) (by omega)) ?_
      refine Sp.go 1 (g := (58, [(5, .int 0), (4, .int (nI i)), (0, .ref (n + 23)), (1, .int (a)), (2, .int (b)), (3, .int (v3))], [.int (b), .int (nd i)])) rfl ?_
      refine Sp.icmp rfl (fun (h3 : ¬ (nd i : Int32) = (b : Int32)) => ?_) (fun (h3 : ¬ (¬ (nd i : Int32) = (b : Int32))) => ?_)
      · skip
        refine Sp.go 3 (g := (83, [(6, .int 0), (5, .int 0), (4, .int (nI i)), (0, .ref (n + 23)), (1, .int (a)), (2, .int (b)), (3, .int (v3))], [.int 0])) rfl ?_
        refine Sp.if rfl (fun (h4 : ¬ (0 : Int32) = (0 : Int32)) => ?_) (fun (h4 : ¬ (¬ (0 : Int32) = (0 : Int32))) => ?_)
        · skip
          refine Sp.go 1 (g := (92, [(6, .int 0), (5, .int 0), (4, .int (nI i)), (0, .ref (n + 23)), (1, .int (a)), (2, .int (b)), (3, .int (v3))], [.int 1])) rfl ?_
          refine Sp.iret rfl (Or.inr ⟨rfl, Or.inr rfl⟩) ?_
          have hps : p_step nd a b i = true := by unfold p_step; simp_all
          rw [hps] at hq
          exact hq
        · skip
          refine Sp.go 1 (g := (88, [(6, .int 0), (5, .int 0), (4, .int (nI i)), (0, .ref (n + 23)), (1, .int (a)), (2, .int (b)), (3, .int (v3))], [.int 0])) rfl ?_
          refine Sp.if rfl (fun (h5 : (0 : Int32) = (0 : Int32)) => ?_) (fun (h5 : ¬ ((0 : Int32) = (0 : Int32))) => ?_)
          · skip
            refine Sp.go 2 (g := (10, [(4, .int (nI i + 1)), (6, .int 0), (5, .int 0), (0, .ref (n + 23)), (1, .int (a)), (2, .int (b)), (3, .int (v3))], [])) rfl ?_
            rw [← nI_succ]
            refine Sp.lsub [0, 3, 4, 5, 6] (ls' := [(4, .int (nI (i + 1))), (0, .ref (n + 23)), (1, .int (a)), (2, .int (b)), (3, .int (v3))]) rfl ?_
            refine ih (i + 1) (by omega) (by omega) ?_
            have hps : p_step nd a b i = false := by unfold p_step; simp_all
            rw [hps] at hq
            exact hq
          · skip
            refine Sp.go 1 (g := (92, [(6, .int 0), (5, .int 0), (4, .int (nI i)), (0, .ref (n + 23)), (1, .int (a)), (2, .int (b)), (3, .int (v3))], [.int 1])) rfl ?_
            refine Sp.iret rfl (Or.inr ⟨rfl, Or.inr rfl⟩) ?_
            have hps : p_step nd a b i = true := by unfold p_step; simp_all
            rw [hps] at hq
            exact hq
      · skip
        refine Sp.go 1 (g := (62, [(5, .int 0), (4, .int (nI i)), (0, .ref (n + 23)), (1, .int (a)), (2, .int (b)), (3, .int (v3))], [.ref (n + 23)])) rfl ?_
        refine Sp.get (v := .ref (n + 24)) rfl hp rfl ?_
        refine Sp.go 3 (g := (69, [(5, .int 0), (4, .int (nI i)), (0, .ref (n + 23)), (1, .int (a)), (2, .int (b)), (3, .int (v3))], [.int ((nI i) + 1), .ref (n + 24)])) rfl ?_
        refine Sp.iald (f := nd) (j := i + 1) rfl hn (m_ix_of (by simp only [nI, Int32.ofNat_add, Int32.ofNat_mul] <;> rfl) (by omega) (by omega)) ?_
        refine Sp.go 1 (g := (71, [(5, .int 0), (4, .int (nI i)), (0, .ref (n + 23)), (1, .int (a)), (2, .int (b)), (3, .int (v3))], [.int (a), .int (nd (i + 1))])) rfl ?_
        refine Sp.icmp rfl (fun (h6 : ¬ (nd (i + 1) : Int32) = (a : Int32)) => ?_) (fun (h6 : ¬ (¬ (nd (i + 1) : Int32) = (a : Int32))) => ?_)
        · skip
          refine Sp.go 3 (g := (83, [(6, .int 0), (5, .int 0), (4, .int (nI i)), (0, .ref (n + 23)), (1, .int (a)), (2, .int (b)), (3, .int (v3))], [.int 0])) rfl ?_
          refine Sp.if rfl (fun (h7 : ¬ (0 : Int32) = (0 : Int32)) => ?_) (fun (h7 : ¬ (¬ (0 : Int32) = (0 : Int32))) => ?_)
          · skip
            refine Sp.go 1 (g := (92, [(6, .int 0), (5, .int 0), (4, .int (nI i)), (0, .ref (n + 23)), (1, .int (a)), (2, .int (b)), (3, .int (v3))], [.int 1])) rfl ?_
            refine Sp.iret rfl (Or.inr ⟨rfl, Or.inr rfl⟩) ?_
            have hps : p_step nd a b i = true := by unfold p_step; simp_all
            rw [hps] at hq
            exact hq
          · skip
            refine Sp.go 1 (g := (88, [(6, .int 0), (5, .int 0), (4, .int (nI i)), (0, .ref (n + 23)), (1, .int (a)), (2, .int (b)), (3, .int (v3))], [.int 0])) rfl ?_
            refine Sp.if rfl (fun (h8 : (0 : Int32) = (0 : Int32)) => ?_) (fun (h8 : ¬ ((0 : Int32) = (0 : Int32))) => ?_)
            · skip
              refine Sp.go 2 (g := (10, [(4, .int (nI i + 1)), (6, .int 0), (5, .int 0), (0, .ref (n + 23)), (1, .int (a)), (2, .int (b)), (3, .int (v3))], [])) rfl ?_
              rw [← nI_succ]
              refine Sp.lsub [0, 3, 4, 5, 6] (ls' := [(4, .int (nI (i + 1))), (0, .ref (n + 23)), (1, .int (a)), (2, .int (b)), (3, .int (v3))]) rfl ?_
              refine ih (i + 1) (by omega) (by omega) ?_
              have hps : p_step nd a b i = false := by unfold p_step; simp_all
              rw [hps] at hq
              exact hq
            · skip
              refine Sp.go 1 (g := (92, [(6, .int 0), (5, .int 0), (4, .int (nI i)), (0, .ref (n + 23)), (1, .int (a)), (2, .int (b)), (3, .int (v3))], [.int 1])) rfl ?_
              refine Sp.iret rfl (Or.inr ⟨rfl, Or.inr rfl⟩) ?_
              have hps : p_step nd a b i = true := by unfold p_step; simp_all
              rw [hps] at hq
              exact hq
        · skip
          refine Sp.go 4 (g := (83, [(6, .int 1), (5, .int 0), (4, .int (nI i)), (0, .ref (n + 23)), (1, .int (a)), (2, .int (b)), (3, .int (v3))], [.int 0])) rfl ?_
          refine Sp.if rfl (fun (h9 : ¬ (0 : Int32) = (0 : Int32)) => ?_) (fun (h9 : ¬ (¬ (0 : Int32) = (0 : Int32))) => ?_)
          · skip
            refine Sp.go 1 (g := (92, [(6, .int 1), (5, .int 0), (4, .int (nI i)), (0, .ref (n + 23)), (1, .int (a)), (2, .int (b)), (3, .int (v3))], [.int 1])) rfl ?_
            refine Sp.iret rfl (Or.inr ⟨rfl, Or.inr rfl⟩) ?_
            have hps : p_step nd a b i = true := by unfold p_step; simp_all
            rw [hps] at hq
            exact hq
          · skip
            refine Sp.go 1 (g := (88, [(6, .int 1), (5, .int 0), (4, .int (nI i)), (0, .ref (n + 23)), (1, .int (a)), (2, .int (b)), (3, .int (v3))], [.int 1])) rfl ?_
            refine Sp.if rfl (fun (h10 : (1 : Int32) = (0 : Int32)) => ?_) (fun (h10 : ¬ ((1 : Int32) = (0 : Int32))) => ?_)
            · skip
              refine Sp.go 2 (g := (10, [(4, .int (nI i + 1)), (6, .int 1), (5, .int 0), (0, .ref (n + 23)), (1, .int (a)), (2, .int (b)), (3, .int (v3))], [])) rfl ?_
              rw [← nI_succ]
              refine Sp.lsub [0, 3, 4, 5, 6] (ls' := [(4, .int (nI (i + 1))), (0, .ref (n + 23)), (1, .int (a)), (2, .int (b)), (3, .int (v3))]) rfl ?_
              refine ih (i + 1) (by omega) (by omega) ?_
              have hps : p_step nd a b i = false := by unfold p_step; simp_all
              rw [hps] at hq
              exact hq
            · skip
              refine Sp.go 1 (g := (92, [(6, .int 1), (5, .int 0), (4, .int (nI i)), (0, .ref (n + 23)), (1, .int (a)), (2, .int (b)), (3, .int (v3))], [.int 1])) rfl ?_
              refine Sp.iret rfl (Or.inr ⟨rfl, Or.inr rfl⟩) ?_
              have hps : p_step nd a b i = true := by unfold p_step; simp_all
              rw [hps] at hq
              exact hq
    · skip
      refine Sp.go 1 (g := (31, [(4, .int (nI i)), (0, .ref (n + 23)), (1, .int (a)), (2, .int (b)), (3, .int (v3))], [.ref (n + 23)])) rfl ?_
      refine Sp.get (v := .ref (n + 24)) rfl hp rfl ?_
      refine Sp.go 3 (g := (38, [(4, .int (nI i)), (0, .ref (n + 23)), (1, .int (a)), (2, .int (b)), (3, .int (v3))], [.int ((nI i) + 1), .ref (n + 24)])) rfl ?_
      refine Sp.iald (f := nd) (j := i + 1) rfl hn (m_ix_of (by simp only [nI, Int32.ofNat_add, Int32.ofNat_mul] <;> rfl) (by omega) (by omega)) ?_
      refine Sp.go 1 (g := (40, [(4, .int (nI i)), (0, .ref (n + 23)), (1, .int (a)), (2, .int (b)), (3, .int (v3))], [.int (b), .int (nd (i + 1))])) rfl ?_
      refine Sp.icmp rfl (fun (h11 : ¬ (nd (i + 1) : Int32) = (b : Int32)) => ?_) (fun (h11 : ¬ (¬ (nd (i + 1) : Int32) = (b : Int32))) => ?_)
      · skip
        refine Sp.go 3 (g := (51, [(5, .int 0), (4, .int (nI i)), (0, .ref (n + 23)), (1, .int (a)), (2, .int (b)), (3, .int (v3))], [.ref (n + 23)])) rfl ?_
        refine Sp.get (v := .ref (n + 24)) rfl hp rfl ?_
        refine Sp.go 1 (g := (56, [(5, .int 0), (4, .int (nI i)), (0, .ref (n + 23)), (1, .int (a)), (2, .int (b)), (3, .int (v3))], [.int (nI i), .ref (n + 24)])) rfl ?_
        refine Sp.iald (f := nd) (j := i) rfl hn (m_ix_of (by simp only [nI, Int32.ofNat_add, Int32.ofNat_mul] <;> rfl) (by omega) (by omega)) ?_
        refine Sp.go 1 (g := (58, [(5, .int 0), (4, .int (nI i)), (0, .ref (n + 23)), (1, .int (a)), (2, .int (b)), (3, .int (v3))], [.int (b), .int (nd i)])) rfl ?_
        refine Sp.icmp rfl (fun (h12 : ¬ (nd i : Int32) = (b : Int32)) => ?_) (fun (h12 : ¬ (¬ (nd i : Int32) = (b : Int32))) => ?_)
        · skip
          refine Sp.go 3 (g := (83, [(6, .int 0), (5, .int 0), (4, .int (nI i)), (0, .ref (n + 23)), (1, .int (a)), (2, .int (b)), (3, .int (v3))], [.int 0])) rfl ?_
          refine Sp.if rfl (fun (h13 : ¬ (0 : Int32) = (0 : Int32)) => ?_) (fun (h13 : ¬ (¬ (0 : Int32) = (0 : Int32))) => ?_)
          · skip
            refine Sp.go 1 (g := (92, [(6, .int 0), (5, .int 0), (4, .int (nI i)), (0, .ref (n + 23)), (1, .int (a)), (2, .int (b)), (3, .int (v3))], [.int 1])) rfl ?_
            refine Sp.iret rfl (Or.inr ⟨rfl, Or.inr rfl⟩) ?_
            have hps : p_step nd a b i = true := by unfold p_step; simp_all
            rw [hps] at hq
            exact hq
          · skip
            refine Sp.go 1 (g := (88, [(6, .int 0), (5, .int 0), (4, .int (nI i)), (0, .ref (n + 23)), (1, .int (a)), (2, .int (b)), (3, .int (v3))], [.int 0])) rfl ?_
            refine Sp.if rfl (fun (h14 : (0 : Int32) = (0 : Int32)) => ?_) (fun (h14 : ¬ ((0 : Int32) = (0 : Int32))) => ?_)
            · skip
              refine Sp.go 2 (g := (10, [(4, .int (nI i + 1)), (6, .int 0), (5, .int 0), (0, .ref (n + 23)), (1, .int (a)), (2, .int (b)), (3, .int (v3))], [])) rfl ?_
              rw [← nI_succ]
              refine Sp.lsub [0, 3, 4, 5, 6] (ls' := [(4, .int (nI (i + 1))), (0, .ref (n + 23)), (1, .int (a)), (2, .int (b)), (3, .int (v3))]) rfl ?_
              refine ih (i + 1) (by omega) (by omega) ?_
              have hps : p_step nd a b i = false := by unfold p_step; simp_all
              rw [hps] at hq
              exact hq
            · skip
              refine Sp.go 1 (g := (92, [(6, .int 0), (5, .int 0), (4, .int (nI i)), (0, .ref (n + 23)), (1, .int (a)), (2, .int (b)), (3, .int (v3))], [.int 1])) rfl ?_
              refine Sp.iret rfl (Or.inr ⟨rfl, Or.inr rfl⟩) ?_
              have hps : p_step nd a b i = true := by unfold p_step; simp_all
              rw [hps] at hq
              exact hq
        · skip
          refine Sp.go 1 (g := (62, [(5, .int 0), (4, .int (nI i)), (0, .ref (n + 23)), (1, .int (a)), (2, .int (b)), (3, .int (v3))], [.ref (n + 23)])) rfl ?_
          refine Sp.get (v := .ref (n + 24)) rfl hp rfl ?_
          refine Sp.go 3 (g := (69, [(5, .int 0), (4, .int (nI i)), (0, .ref (n + 23)), (1, .int (a)), (2, .int (b)), (3, .int (v3))], [.int ((nI i) + 1), .ref (n + 24)])) rfl ?_
          refine Sp.iald (f := nd) (j := i + 1) rfl hn (m_ix_of (by simp only [nI, Int32.ofNat_add, Int32.ofNat_mul] <;> rfl) (by omega) (by omega)) ?_
          refine Sp.go 1 (g := (71, [(5, .int 0), (4, .int (nI i)), (0, .ref (n + 23)), (1, .int (a)), (2, .int (b)), (3, .int (v3))], [.int (a), .int (nd (i + 1))])) rfl ?_
          refine Sp.icmp rfl (fun (h15 : ¬ (nd (i + 1) : Int32) = (a : Int32)) => ?_) (fun (h15 : ¬ (¬ (nd (i + 1) : Int32) = (a : Int32))) => ?_)
          · skip
            refine Sp.go 3 (g := (83, [(6, .int 0), (5, .int 0), (4, .int (nI i)), (0, .ref (n + 23)), (1, .int (a)), (2, .int (b)), (3, .int (v3))], [.int 0])) rfl ?_
            refine Sp.if rfl (fun (h16 : ¬ (0 : Int32) = (0 : Int32)) => ?_) (fun (h16 : ¬ (¬ (0 : Int32) = (0 : Int32))) => ?_)
            · skip
              refine Sp.go 1 (g := (92, [(6, .int 0), (5, .int 0), (4, .int (nI i)), (0, .ref (n + 23)), (1, .int (a)), (2, .int (b)), (3, .int (v3))], [.int 1])) rfl ?_
              refine Sp.iret rfl (Or.inr ⟨rfl, Or.inr rfl⟩) ?_
              have hps : p_step nd a b i = true := by unfold p_step; simp_all
              rw [hps] at hq
              exact hq
            · skip
              refine Sp.go 1 (g := (88, [(6, .int 0), (5, .int 0), (4, .int (nI i)), (0, .ref (n + 23)), (1, .int (a)), (2, .int (b)), (3, .int (v3))], [.int 0])) rfl ?_
              refine Sp.if rfl (fun (h17 : (0 : Int32) = (0 : Int32)) => ?_) (fun (h17 : ¬ ((0 : Int32) = (0 : Int32))) => ?_)
              · skip
                refine Sp.go 2 (g := (10, [(4, .int (nI i + 1)), (6, .int 0), (5, .int 0), (0, .ref (n + 23)), (1, .int (a)), (2, .int (b)), (3, .int (v3))], [])) rfl ?_
                rw [← nI_succ]
                refine Sp.lsub [0, 3, 4, 5, 6] (ls' := [(4, .int (nI (i + 1))), (0, .ref (n + 23)), (1, .int (a)), (2, .int (b)), (3, .int (v3))]) rfl ?_
                refine ih (i + 1) (by omega) (by omega) ?_
                have hps : p_step nd a b i = false := by unfold p_step; simp_all
                rw [hps] at hq
                exact hq
              · skip
                refine Sp.go 1 (g := (92, [(6, .int 0), (5, .int 0), (4, .int (nI i)), (0, .ref (n + 23)), (1, .int (a)), (2, .int (b)), (3, .int (v3))], [.int 1])) rfl ?_
                refine Sp.iret rfl (Or.inr ⟨rfl, Or.inr rfl⟩) ?_
                have hps : p_step nd a b i = true := by unfold p_step; simp_all
                rw [hps] at hq
                exact hq
          · skip
            refine Sp.go 4 (g := (83, [(6, .int 1), (5, .int 0), (4, .int (nI i)), (0, .ref (n + 23)), (1, .int (a)), (2, .int (b)), (3, .int (v3))], [.int 0])) rfl ?_
            refine Sp.if rfl (fun (h18 : ¬ (0 : Int32) = (0 : Int32)) => ?_) (fun (h18 : ¬ (¬ (0 : Int32) = (0 : Int32))) => ?_)
            · skip
              refine Sp.go 1 (g := (92, [(6, .int 1), (5, .int 0), (4, .int (nI i)), (0, .ref (n + 23)), (1, .int (a)), (2, .int (b)), (3, .int (v3))], [.int 1])) rfl ?_
              refine Sp.iret rfl (Or.inr ⟨rfl, Or.inr rfl⟩) ?_
              have hps : p_step nd a b i = true := by unfold p_step; simp_all
              rw [hps] at hq
              exact hq
            · skip
              refine Sp.go 1 (g := (88, [(6, .int 1), (5, .int 0), (4, .int (nI i)), (0, .ref (n + 23)), (1, .int (a)), (2, .int (b)), (3, .int (v3))], [.int 1])) rfl ?_
              refine Sp.if rfl (fun (h19 : (1 : Int32) = (0 : Int32)) => ?_) (fun (h19 : ¬ ((1 : Int32) = (0 : Int32))) => ?_)
              · skip
                refine Sp.go 2 (g := (10, [(4, .int (nI i + 1)), (6, .int 1), (5, .int 0), (0, .ref (n + 23)), (1, .int (a)), (2, .int (b)), (3, .int (v3))], [])) rfl ?_
                rw [← nI_succ]
                refine Sp.lsub [0, 3, 4, 5, 6] (ls' := [(4, .int (nI (i + 1))), (0, .ref (n + 23)), (1, .int (a)), (2, .int (b)), (3, .int (v3))]) rfl ?_
                refine ih (i + 1) (by omega) (by omega) ?_
                have hps : p_step nd a b i = false := by unfold p_step; simp_all
                rw [hps] at hq
                exact hq
              · skip
                refine Sp.go 1 (g := (92, [(6, .int 1), (5, .int 0), (4, .int (nI i)), (0, .ref (n + 23)), (1, .int (a)), (2, .int (b)), (3, .int (v3))], [.int 1])) rfl ?_
                refine Sp.iret rfl (Or.inr ⟨rfl, Or.inr rfl⟩) ?_
                have hps : p_step nd a b i = true := by unfold p_step; simp_all
                rw [hps] at hq
                exact hq
      · skip
        refine Sp.go 4 (g := (51, [(5, .int 1), (4, .int (nI i)), (0, .ref (n + 23)), (1, .int (a)), (2, .int (b)), (3, .int (v3))], [.ref (n + 23)])) rfl ?_
        refine Sp.get (v := .ref (n + 24)) rfl hp rfl ?_
        refine Sp.go 1 (g := (56, [(5, .int 1), (4, .int (nI i)), (0, .ref (n + 23)), (1, .int (a)), (2, .int (b)), (3, .int (v3))], [.int (nI i), .ref (n + 24)])) rfl ?_
        refine Sp.iald (f := nd) (j := i) rfl hn (m_ix_of (by simp only [nI, Int32.ofNat_add, Int32.ofNat_mul] <;> rfl) (by omega) (by omega)) ?_
        refine Sp.go 1 (g := (58, [(5, .int 1), (4, .int (nI i)), (0, .ref (n + 23)), (1, .int (a)), (2, .int (b)), (3, .int (v3))], [.int (b), .int (nd i)])) rfl ?_
        refine Sp.icmp rfl (fun (h20 : ¬ (nd i : Int32) = (b : Int32)) => ?_) (fun (h20 : ¬ (¬ (nd i : Int32) = (b : Int32))) => ?_)
        · skip
          refine Sp.go 3 (g := (83, [(6, .int 0), (5, .int 1), (4, .int (nI i)), (0, .ref (n + 23)), (1, .int (a)), (2, .int (b)), (3, .int (v3))], [.int 1])) rfl ?_
          refine Sp.if rfl (fun (h21 : ¬ (1 : Int32) = (0 : Int32)) => ?_) (fun (h21 : ¬ (¬ (1 : Int32) = (0 : Int32))) => ?_)
          · skip
            refine Sp.go 1 (g := (92, [(6, .int 0), (5, .int 1), (4, .int (nI i)), (0, .ref (n + 23)), (1, .int (a)), (2, .int (b)), (3, .int (v3))], [.int 1])) rfl ?_
            refine Sp.iret rfl (Or.inr ⟨rfl, Or.inr rfl⟩) ?_
            have hps : p_step nd a b i = true := by unfold p_step; simp_all
            rw [hps] at hq
            exact hq
          · skip
            refine Sp.go 1 (g := (88, [(6, .int 0), (5, .int 1), (4, .int (nI i)), (0, .ref (n + 23)), (1, .int (a)), (2, .int (b)), (3, .int (v3))], [.int 0])) rfl ?_
            refine Sp.if rfl (fun (h22 : (0 : Int32) = (0 : Int32)) => ?_) (fun (h22 : ¬ ((0 : Int32) = (0 : Int32))) => ?_)
            · skip
              refine Sp.go 2 (g := (10, [(4, .int (nI i + 1)), (6, .int 0), (5, .int 1), (0, .ref (n + 23)), (1, .int (a)), (2, .int (b)), (3, .int (v3))], [])) rfl ?_
              rw [← nI_succ]
              refine Sp.lsub [0, 3, 4, 5, 6] (ls' := [(4, .int (nI (i + 1))), (0, .ref (n + 23)), (1, .int (a)), (2, .int (b)), (3, .int (v3))]) rfl ?_
              refine ih (i + 1) (by omega) (by omega) ?_
              have hps : p_step nd a b i = false := by unfold p_step; simp_all
              rw [hps] at hq
              exact hq
            · skip
              refine Sp.go 1 (g := (92, [(6, .int 0), (5, .int 1), (4, .int (nI i)), (0, .ref (n + 23)), (1, .int (a)), (2, .int (b)), (3, .int (v3))], [.int 1])) rfl ?_
              refine Sp.iret rfl (Or.inr ⟨rfl, Or.inr rfl⟩) ?_
              have hps : p_step nd a b i = true := by unfold p_step; simp_all
              rw [hps] at hq
              exact hq
        · skip
          refine Sp.go 1 (g := (62, [(5, .int 1), (4, .int (nI i)), (0, .ref (n + 23)), (1, .int (a)), (2, .int (b)), (3, .int (v3))], [.ref (n + 23)])) rfl ?_
          refine Sp.get (v := .ref (n + 24)) rfl hp rfl ?_
          refine Sp.go 3 (g := (69, [(5, .int 1), (4, .int (nI i)), (0, .ref (n + 23)), (1, .int (a)), (2, .int (b)), (3, .int (v3))], [.int ((nI i) + 1), .ref (n + 24)])) rfl ?_
          refine Sp.iald (f := nd) (j := i + 1) rfl hn (m_ix_of (by simp only [nI, Int32.ofNat_add, Int32.ofNat_mul] <;> rfl) (by omega) (by omega)) ?_
          refine Sp.go 1 (g := (71, [(5, .int 1), (4, .int (nI i)), (0, .ref (n + 23)), (1, .int (a)), (2, .int (b)), (3, .int (v3))], [.int (a), .int (nd (i + 1))])) rfl ?_
          refine Sp.icmp rfl (fun (h23 : ¬ (nd (i + 1) : Int32) = (a : Int32)) => ?_) (fun (h23 : ¬ (¬ (nd (i + 1) : Int32) = (a : Int32))) => ?_)
          · skip
            refine Sp.go 3 (g := (83, [(6, .int 0), (5, .int 1), (4, .int (nI i)), (0, .ref (n + 23)), (1, .int (a)), (2, .int (b)), (3, .int (v3))], [.int 1])) rfl ?_
            refine Sp.if rfl (fun (h24 : ¬ (1 : Int32) = (0 : Int32)) => ?_) (fun (h24 : ¬ (¬ (1 : Int32) = (0 : Int32))) => ?_)
            · skip
              refine Sp.go 1 (g := (92, [(6, .int 0), (5, .int 1), (4, .int (nI i)), (0, .ref (n + 23)), (1, .int (a)), (2, .int (b)), (3, .int (v3))], [.int 1])) rfl ?_
              refine Sp.iret rfl (Or.inr ⟨rfl, Or.inr rfl⟩) ?_
              have hps : p_step nd a b i = true := by unfold p_step; simp_all
              rw [hps] at hq
              exact hq
            · skip
              refine Sp.go 1 (g := (88, [(6, .int 0), (5, .int 1), (4, .int (nI i)), (0, .ref (n + 23)), (1, .int (a)), (2, .int (b)), (3, .int (v3))], [.int 0])) rfl ?_
              refine Sp.if rfl (fun (h25 : (0 : Int32) = (0 : Int32)) => ?_) (fun (h25 : ¬ ((0 : Int32) = (0 : Int32))) => ?_)
              · skip
                refine Sp.go 2 (g := (10, [(4, .int (nI i + 1)), (6, .int 0), (5, .int 1), (0, .ref (n + 23)), (1, .int (a)), (2, .int (b)), (3, .int (v3))], [])) rfl ?_
                rw [← nI_succ]
                refine Sp.lsub [0, 3, 4, 5, 6] (ls' := [(4, .int (nI (i + 1))), (0, .ref (n + 23)), (1, .int (a)), (2, .int (b)), (3, .int (v3))]) rfl ?_
                refine ih (i + 1) (by omega) (by omega) ?_
                have hps : p_step nd a b i = false := by unfold p_step; simp_all
                rw [hps] at hq
                exact hq
              · skip
                refine Sp.go 1 (g := (92, [(6, .int 0), (5, .int 1), (4, .int (nI i)), (0, .ref (n + 23)), (1, .int (a)), (2, .int (b)), (3, .int (v3))], [.int 1])) rfl ?_
                refine Sp.iret rfl (Or.inr ⟨rfl, Or.inr rfl⟩) ?_
                have hps : p_step nd a b i = true := by unfold p_step; simp_all
                rw [hps] at hq
                exact hq
          · skip
            refine Sp.go 4 (g := (83, [(6, .int 1), (5, .int 1), (4, .int (nI i)), (0, .ref (n + 23)), (1, .int (a)), (2, .int (b)), (3, .int (v3))], [.int 1])) rfl ?_
            refine Sp.if rfl (fun (h26 : ¬ (1 : Int32) = (0 : Int32)) => ?_) (fun (h26 : ¬ (¬ (1 : Int32) = (0 : Int32))) => ?_)
            · skip
              refine Sp.go 1 (g := (92, [(6, .int 1), (5, .int 1), (4, .int (nI i)), (0, .ref (n + 23)), (1, .int (a)), (2, .int (b)), (3, .int (v3))], [.int 1])) rfl ?_
              refine Sp.iret rfl (Or.inr ⟨rfl, Or.inr rfl⟩) ?_
              have hps : p_step nd a b i = true := by unfold p_step; simp_all
              rw [hps] at hq
              exact hq
            · skip
              refine Sp.go 1 (g := (88, [(6, .int 1), (5, .int 1), (4, .int (nI i)), (0, .ref (n + 23)), (1, .int (a)), (2, .int (b)), (3, .int (v3))], [.int 1])) rfl ?_
              refine Sp.if rfl (fun (h27 : (1 : Int32) = (0 : Int32)) => ?_) (fun (h27 : ¬ ((1 : Int32) = (0 : Int32))) => ?_)
              · skip
                refine Sp.go 2 (g := (10, [(4, .int (nI i + 1)), (6, .int 1), (5, .int 1), (0, .ref (n + 23)), (1, .int (a)), (2, .int (b)), (3, .int (v3))], [])) rfl ?_
                rw [← nI_succ]
                refine Sp.lsub [0, 3, 4, 5, 6] (ls' := [(4, .int (nI (i + 1))), (0, .ref (n + 23)), (1, .int (a)), (2, .int (b)), (3, .int (v3))]) rfl ?_
                refine ih (i + 1) (by omega) (by omega) ?_
                have hps : p_step nd a b i = false := by unfold p_step; simp_all
                rw [hps] at hq
                exact hq
              · skip
                refine Sp.go 1 (g := (92, [(6, .int 1), (5, .int 1), (4, .int (nI i)), (0, .ref (n + 23)), (1, .int (a)), (2, .int (b)), (3, .int (v3))], [.int 1])) rfl ?_
                refine Sp.iret rfl (Or.inr ⟨rfl, Or.inr rfl⟩) ?_
                have hps : p_step nd a b i = true := by unfold p_step; simp_all
                rw [hps] at hq
                exact hq
theorem p_usesPairFrom {X : mX} {C S : Nat} {Q : Outcome → mM → Prop} {w : mWd} {n : Nat} {g f : Int32} {nd : Nat → Int32} {a b : Int32} {t s e : Nat} (ht : t < 65) (hs : s < 65) (he : e ≤ 64) (hp : w.d n = some (.inr (1, [.int g, .int (nI t), .ref (n + 24), .int (nI e), .int f]))) (hn : w.d (n + 1) = some (.inl (0, 65, .inl nd))) (hq : Q (.returned (some (.int (m_b2 (m_any (p_step nd a b) (max t s) (e - max t s)))))) (mw w)) : Sp X 18 1 21 C S (0, [(0, .ref (n + 23)), (1, .int (a)), (2, .int (b)), (3, .int (nI s))], []) (mw w) Q := by
  refine Sp.go 1 (g := (1, [(0, .ref (n + 23)), (1, .int (a)), (2, .int (b)), (3, .int (nI s))], [.ref (n + 23)])) rfl ?_
  refine Sp.get (v := .int (nI t)) rfl hp rfl ?_
  refine Sp.go 1 (g := (5, [(0, .ref (n + 23)), (1, .int (a)), (2, .int (b)), (3, .int (nI s))], [.int (nI s), .int (nI t)])) rfl ?_
  refine Sp.max rfl (by decide) (Nat.le_of_ble_eq_true rfl) ?_
  rw [p_max (by omega) (by omega)]
  refine Sp.go 1 (g := (10, [(4, .int (nI (max t s))), (0, .ref (n + 23)), (1, .int (a)), (2, .int (b)), (3, .int (nI s))], [])) rfl ?_
  exact p_uses_loop he hp hn (e - max t s) (max t s) (by omega) (by omega) hq
end
section
/-! The desk: its small methods. Rows laid by wip/gen/desk1.py. -/
section WP
variable {X : mX} {k F N C S : Nat} {pc : Nat} {ls : List (Nat × Value)} {st : List Value} {w : mWd} {Q : Outcome → mM → Prop}
theorem Sp.pl {n idx j : Nat} {fs : List Value} {x : Int32} (hi : m_i k pc = some (.putfield idx, 1, j)) (hm : w.d n = some (.inr (1, fs))) (hj : j < fs.length) (hf : m_fit (m_ty 1 j) (.int x) = true) (kk : Sp X k F N C S (pc + 3, ls, st) (mw (w.sd n (.inr (1, fs.set j (.int x))))) Q) : Sp X k F N C S (pc, ls, .int x :: .ref (n + 23) :: st) (mw w) Q :=
  Sp.put (a := n + 23) (fs := fs) (v := .int x) hi hm hj hf (by rw [mw_d]; exact kk)
theorem Sp.pn {n j x0 y0 : Nat} {i x : Int32} {f : Nat → Int32} (hi : m_i k pc = some (.iastore, x0, y0)) (hm : w.d (n + 1) = some (.inl (0, 65, .inl f))) (hj : m_ix i j 65) (kk : Sp X k F N C S (pc + 1, ls, st) (mw (w.sd (n + 1) (.inl (0, 65, .inl (upd f j x))))) Q) : Sp X k F N C S (pc, ls, .int x :: .int i :: .ref (n + 24) :: st) (mw w) Q :=
  Sp.iast (a := n + 1 + 23) hi hm hj (by rw [mw_d]; exact kk)
end WP
/-- the parcels in the world: P of them; where each lies; goal, at, last, fate; its nodes -/
def c_P (w : mWd) (P : Nat) (q : Nat → Nat) (g t l f : Nat → Int32) (nd : Nat → Nat → Int32) : Prop :=
  (∀ h, h < P → w.p h = some (q h + 23) ∧ w.d (q h) = some (.inr (1, [.int (g h), .int (t h), .ref (q h + 24), .int (l h), .int (f h)])) ∧ w.d (q h + 1) = some (.inl (0, 65, .inl (nd h))) ∧ q h + 25 ≤ w.nx) ∧ ∀ h h', h < P → h' < P → h ≠ h' → q h ≠ q h' ∧ q h ≠ q h' + 1
def r_tick (x : Int32) : Bool := !decide (x < 0) && decide (x < 64)
theorem r_tick_spec {x : Int32} (h : r_tick x = true) : ∃ t, t < 64 ∧ x = nI t := by
  simp only [r_tick, Bool.and_eq_true, Bool.not_eq_true', decide_eq_false_iff_not, decide_eq_true_eq] at h
  refine ⟨x.toNatClampNeg, ?_, m_nat h.1⟩
  have h1 := h.2
  rw [m_nat h.1] at h1
  have h2 : x.toNatClampNeg < 2 ^ 31 := by
    have := Int32.toInt_lt x
    show x.toInt.toNat < 2 ^ 31
    omega
  exact (nI_lt' (b := 64) h2 (by omega)).mp h1
theorem n_is_spec {m x : Int32} (h : n_is m x = true) : ∃ n, n < 8 ∧ x = nI n ∧ bt m n = true := by
  simp only [n_is, Bool.and_eq_true, Bool.not_eq_true', decide_eq_false_iff_not, decide_eq_true_eq] at h
  exact ⟨x.toNatClampNeg, n_is_lt h.1 (k2_nle h.2.1), m_nat h.1, h.2.2⟩
theorem n_pair_spec {m x y : Int32} (h : n_pair m x y = true) : ∃ a b, a < 8 ∧ b < 8 ∧ a ≠ b ∧ x = nI a ∧ y = nI b ∧ bt m a = true ∧ bt m b = true := by
  simp only [n_pair, Bool.and_eq_true, Bool.not_eq_true', decide_eq_false_iff_not] at h
  obtain ⟨a, ha, rfl, h1⟩ := n_is_spec h.1
  obtain ⟨b, hb, rfl, h2⟩ := n_is_spec h.2.1
  exact ⟨a, b, ha, hb, fun e => h.2.2 (by rw [e]), rfl, rfl, h1, h2⟩
theorem r_isTick {X : mX} {C S : Nat} {Q : Outcome → mM → Prop} {x : Int32} {w : mWd} (hq : Q (.returned (some (.int (m_b2 (r_tick x))))) (mw w)) : Sp X 43 0 0 C S (0, [(0, .int (x))], []) (mw w) Q := by
  refine Sp.go 1 (g := (1, [(0, .int (x))], [.int (x)])) rfl ?_
  refine Sp.if rfl (fun (h1 : (x : Int32) < (0 : Int32)) => ?_) (fun (h1 : ¬ ((x : Int32) < (0 : Int32))) => ?_)
  · skip
    refine Sp.go 1 (g := (15, [(0, .int (x))], [.int 0])) rfl ?_
    refine Sp.iret rfl (Or.inr ⟨rfl, Or.inl rfl⟩) ?_
    rw [show r_tick x = false by simp [r_tick, h1]] at hq; exact hq
  · skip
    refine Sp.go 2 (g := (7, [(0, .int (x))], [.int 64, .int (x)])) rfl ?_
    refine Sp.icmp rfl (fun (h2 : (64 : Int32) ≤ (x : Int32)) => ?_) (fun (h2 : ¬ ((64 : Int32) ≤ (x : Int32))) => ?_)
    · skip
      refine Sp.go 1 (g := (15, [(0, .int (x))], [.int 0])) rfl ?_
      refine Sp.iret rfl (Or.inr ⟨rfl, Or.inl rfl⟩) ?_
      rw [show r_tick x = false by simp [r_tick, k2_nlt h2]] at hq; exact hq
    · skip
      refine Sp.go 2 (g := (15, [(0, .int (x))], [.int 1])) rfl ?_
      refine Sp.iret rfl (Or.inr ⟨rfl, Or.inr rfl⟩) ?_
      rw [show r_tick x = true by simp [r_tick, h1, k2_lt h2]] at hq; exact hq
theorem r_now {X : mX} {C S : Nat} {Q : Outcome → mM → Prop} {w : mWd} (hq : Q (.returned (some (.int (w.f 4)))) (mw w)) : Sp X 29 0 0 C S (0, [(0, .ref 0)], []) (mw w) Q := by
  refine Sp.go 1 (g := (1, [(0, .ref 0)], [.ref 0])) rfl ?_
  refine Sp.get (v := .int (w.f 4)) rfl rfl rfl ?_
  refine Sp.iret rfl (Or.inl rfl) ?_
  exact hq
theorem r_parcelOf_in {X : mX} {C S : Nat} {Q : Outcome → mM → Prop} {w : mWd} {P h v : Nat} (hP : w.f 3 = nI P) (h32 : P ≤ 32) (hh : h < P) (hp : w.p h = some v) (hq : Q (.returned (some (.ref v))) (mw w)) : Sp X 45 0 0 C S (0, [(0, .ref 0), (1, .int (nI h))], []) (mw w) Q := by
  refine Sp.go 1 (g := (1, [(0, .ref 0), (1, .int (nI h))], [.int (nI h)])) rfl ?_
  refine Sp.if rfl (fun u1 => absurd u1 (nI_pos (by omega))) (fun u1 => ?_)
  refine Sp.go 2 (g := (6, [(0, .ref 0), (1, .int (nI h))], [.ref 0, .int (nI h)])) rfl ?_
  refine Sp.get (v := .int (w.f 3)) rfl rfl rfl ?_
  refine Sp.icmp rfl (fun u2 => absurd u2 (by rw [hP]; exact fun q => absurd ((nI_le' (by omega) (by omega)).mp q) (by omega))) (fun u2 => ?_)
  refine Sp.go 1 (g := (13, [(0, .ref 0), (1, .int (nI h))], [.ref 0])) rfl ?_
  refine Sp.get (v := .ref 9) rfl rfl rfl ?_
  refine Sp.go 1 (g := (17, [(0, .ref 0), (1, .int (nI h))], [.int (nI h), .ref 9])) rfl ?_
  refine Sp.aald (f := w.p) (j := h) rfl rfl (m_ix_of (by simp only [nI, Int32.ofNat_add, Int32.ofNat_mul] <;> rfl) (by omega) (by omega)) ?_
  rw [hp]
  refine Sp.go 1 (g := (22, [(0, .ref 0), (1, .int (nI h))], [.ref (v)])) rfl ?_
  refine Sp.aret rfl rfl (Or.inr ⟨_, rfl⟩) ?_
  exact hq
theorem r_parcelOf_out {X : mX} {C S : Nat} {Q : Outcome → mM → Prop} {w : mWd} {x : Int32} (hx : x < 0 ∨ w.f 3 ≤ x) (hq : Q (.returned (some .null)) (mw w)) : Sp X 45 0 0 C S (0, [(0, .ref 0), (1, .int (x))], []) (mw w) Q := by
  by_cases h0 : x < 0
  · refine Sp.go 1 (g := (1, [(0, .ref 0), (1, .int x)], [.int x])) rfl ?_
    refine Sp.if rfl (fun _ => ?_) (fun h => absurd h0 h)
    refine Sp.go 1 (g := (22, [(0, .ref 0), (1, .int x)], [.null])) rfl ?_
    exact Sp.aret rfl rfl (Or.inl rfl) hq
  have h1 : w.f 3 ≤ x := hx.resolve_left h0
  refine Sp.go 1 (g := (1, [(0, .ref 0), (1, .int x)], [.int x])) rfl ?_
  refine Sp.if rfl (fun h => absurd h h0) (fun _ => ?_)
  refine Sp.go 2 (g := (6, [(0, .ref 0), (1, .int x)], [.ref 0, .int x])) rfl ?_
  refine Sp.get (v := .int (w.f 3)) rfl rfl rfl ?_
  refine Sp.icmp rfl (fun _ => ?_) (fun h => absurd h1 h)
  refine Sp.go 1 (g := (22, [(0, .ref 0), (1, .int x)], [.null])) rfl ?_
  exact Sp.aret rfl rfl (Or.inl rfl) hq
theorem r_state_in {X : mX} {C S : Nat} {Q : Outcome → mM → Prop} {w : mWd} {P hd : Nat} {q : Nat → Nat} {g t l f : Nat → Int32} {nd : Nat → Nat → Int32} (hP : w.f 3 = nI P) (h32 : P ≤ 32) (hh : hd < P) (hc : c_P w P q g t l f nd) (hq : Q (.returned (some (.int (p_state (t hd) (l hd) (f hd) (w.f 4))))) (mw w)) : Sp X 35 1 21 C S (0, [(0, .ref 0), (1, .int (nI hd))], []) (mw w) Q := by
  refine Sp.go 2 (g := (2, [(0, .ref 0), (1, .int (nI hd))], [.int (nI hd), .ref 0])) rfl ?_
  refine Sp.vr (some (.ref (q hd + 23))) (mw (w)) (k' := 45) (F' := 0) (N' := 0) (C' := 0) (S' := 0) (vs := [.int (nI hd)]) (st := []) rfl rfl rfl rfl (Nat.le_of_ble_eq_true rfl) (Nat.le_of_ble_eq_true rfl) (by decide) (by decide) (Nat.zero_le _) (Nat.zero_le _) (fun Q' h => r_parcelOf_in hP h32 hh (hc.1 hd hh).1 h) ?_
  refine Sp.go 5 (g := (16, [(2, .ref (q hd + 23)), (0, .ref 0), (1, .int (nI hd))], [.ref 0, .ref (q hd + 23)])) rfl ?_
  refine Sp.get (v := .int (w.f 4)) rfl rfl rfl ?_
  refine Sp.vr (some (.int (p_state (t hd) (l hd) (f hd) (w.f 4)))) (mw (w)) (k' := 15) (F' := 0) (N' := 0) (C' := 0) (S' := 0) (vs := [.int (w.f 4)]) (st := []) rfl (hc.1 hd hh).2.1 rfl rfl (Nat.le_of_ble_eq_true rfl) (Nat.le_of_ble_eq_true rfl) (by decide) (by decide) (Nat.zero_le _) (Nat.zero_le _) (fun Q' h => p_stateAt (hc.1 hd hh).2.1 h) ?_
  refine Sp.iret rfl (Or.inl rfl) ?_
  exact hq
theorem r_state_out {X : mX} {C S : Nat} {Q : Outcome → mM → Prop} {w : mWd} {x : Int32} (hx : x < 0 ∨ w.f 3 ≤ x) (hq : Q (.returned (some (.int 0))) (mw w)) : Sp X 35 1 21 C S (0, [(0, .ref 0), (1, .int (x))], []) (mw w) Q := by
  refine Sp.go 2 (g := (2, [(0, .ref 0), (1, .int (x))], [.int (x), .ref 0])) rfl ?_
  refine Sp.vr (some (.null)) (mw (w)) (k' := 45) (F' := 0) (N' := 0) (C' := 0) (S' := 0) (vs := [.int (x)]) (st := []) rfl rfl rfl rfl (Nat.le_of_ble_eq_true rfl) (Nat.le_of_ble_eq_true rfl) (by decide) (by decide) (Nat.zero_le _) (Nat.zero_le _) (fun Q' h => r_parcelOf_out hx h) ?_
  refine Sp.go 5 (g := (22, [(2, .null), (0, .ref 0), (1, .int (x))], [.int 0])) rfl ?_
  refine Sp.iret rfl (Or.inl rfl) ?_
  exact hq
theorem r_where_in {X : mX} {C S : Nat} {Q : Outcome → mM → Prop} {w : mWd} {P hd : Nat} {q : Nat → Nat} {g t l f : Nat → Int32} {nd : Nat → Nat → Int32} (hP : w.f 3 = nI P) (h32 : P ≤ 32) (hh : hd < P) (hc : c_P w P q g t l f nd) (h0 : ¬ t hd < 0) {e : Nat} (hl : l hd ≤ nI e) (he : e < 65) (hq : Q (.returned (some (.int (if p_state (t hd) (l hd) (f hd) (w.f 4) = 2 then p_node (nd hd) (t hd) (l hd) (w.f 4) else -1)))) (mw w)) : Sp X 36 1 21 C S (0, [(0, .ref 0), (1, .int (nI hd))], []) (mw w) Q := by
  refine Sp.go 2 (g := (2, [(0, .ref 0), (1, .int (nI hd))], [.int (nI hd), .ref 0])) rfl ?_
  refine Sp.vr (some (.ref (q hd + 23))) (mw (w)) (k' := 45) (F' := 0) (N' := 0) (C' := 0) (S' := 0) (vs := [.int (nI hd)]) (st := []) rfl rfl rfl rfl (Nat.le_of_ble_eq_true rfl) (Nat.le_of_ble_eq_true rfl) (by decide) (by decide) (Nat.zero_le _) (Nat.zero_le _) (fun Q' h => r_parcelOf_in hP h32 hh (hc.1 hd hh).1 h) ?_
  refine Sp.go 5 (g := (12, [(2, .ref (q hd + 23)), (0, .ref 0), (1, .int (nI hd))], [.ref 0, .ref (q hd + 23)])) rfl ?_
  refine Sp.get (v := .int (w.f 4)) rfl rfl rfl ?_
  refine Sp.vr (some (.int (p_state (t hd) (l hd) (f hd) (w.f 4)))) (mw (w)) (k' := 15) (F' := 0) (N' := 0) (C' := 0) (S' := 0) (vs := [.int (w.f 4)]) (st := []) rfl (hc.1 hd hh).2.1 rfl rfl (Nat.le_of_ble_eq_true rfl) (Nat.le_of_ble_eq_true rfl) (by decide) (by decide) (Nat.zero_le _) (Nat.zero_le _) (fun Q' h => p_stateAt (hc.1 hd hh).2.1 h) ?_
  refine Sp.go 1 (g := (19, [(2, .ref (q hd + 23)), (0, .ref 0), (1, .int (nI hd))], [.int 2, .int (p_state (t hd) (l hd) (f hd) (w.f 4))])) rfl ?_
  refine Sp.icmp rfl (fun (h1 : ¬ (p_state (t hd) (l hd) (f hd) (w.f 4) : Int32) = (2 : Int32)) => ?_) (fun (h1 : ¬ (¬ (p_state (t hd) (l hd) (f hd) (w.f 4) : Int32) = (2 : Int32))) => ?_)
  · skip
    refine Sp.go 1 (g := (34, [(2, .ref (q hd + 23)), (0, .ref 0), (1, .int (nI hd))], [.int (-1)])) rfl ?_
    refine Sp.iret rfl (Or.inl rfl) ?_
    rw [if_neg h1] at hq; exact hq
  · skip
    refine Sp.go 2 (g := (24, [(2, .ref (q hd + 23)), (0, .ref 0), (1, .int (nI hd))], [.ref 0, .ref (q hd + 23)])) rfl ?_
    refine Sp.get (v := .int (w.f 4)) rfl rfl rfl ?_
    refine Sp.vr (some (.int (p_node (nd hd) (t hd) (l hd) (w.f 4)))) (mw (w)) (k' := 17) (F' := 0) (N' := 0) (C' := 0) (S' := 0) (vs := [.int (w.f 4)]) (st := []) rfl (hc.1 hd hh).2.1 rfl rfl (Nat.le_of_ble_eq_true rfl) (Nat.le_of_ble_eq_true rfl) (by decide) (by decide) (Nat.zero_le _) (Nat.zero_le _) (fun Q' h => p_nodeFor h0 hl he (hc.1 hd hh).2.1 (hc.1 hd hh).2.2.1 h) ?_
    refine Sp.go 1 (g := (34, [(2, .ref (q hd + 23)), (0, .ref 0), (1, .int (nI hd))], [.int (p_node (nd hd) (t hd) (l hd) (w.f 4))])) rfl ?_
    refine Sp.iret rfl (Or.inl rfl) ?_
    rw [if_pos (Classical.not_not.mp h1)] at hq; exact hq
theorem r_where_out {X : mX} {C S : Nat} {Q : Outcome → mM → Prop} {w : mWd} {x : Int32} (hx : x < 0 ∨ w.f 3 ≤ x) (hq : Q (.returned (some (.int (-1)))) (mw w)) : Sp X 36 1 21 C S (0, [(0, .ref 0), (1, .int (x))], []) (mw w) Q := by
  refine Sp.go 2 (g := (2, [(0, .ref 0), (1, .int (x))], [.int (x), .ref 0])) rfl ?_
  refine Sp.vr (some (.null)) (mw (w)) (k' := 45) (F' := 0) (N' := 0) (C' := 0) (S' := 0) (vs := [.int (x)]) (st := []) rfl rfl rfl rfl (Nat.le_of_ble_eq_true rfl) (Nat.le_of_ble_eq_true rfl) (by decide) (by decide) (Nat.zero_le _) (Nat.zero_le _) (fun Q' h => r_parcelOf_out hx h) ?_
  refine Sp.go 4 (g := (34, [(2, .null), (0, .ref 0), (1, .int (x))], [.int (-1)])) rfl ?_
  refine Sp.iret rfl (Or.inl rfl) ?_
  exact hq
theorem r_arrival_in {X : mX} {C S : Nat} {Q : Outcome → mM → Prop} {w : mWd} {P hd : Nat} {q : Nat → Nat} {g t l f : Nat → Int32} {nd : Nat → Nat → Int32} (hP : w.f 3 = nI P) (h32 : P ≤ 32) (hh : hd < P) (hc : c_P w P q g t l f nd) (hq : Q (.returned (some (.int (if f hd = 0 then l hd else -1)))) (mw w)) : Sp X 37 1 21 C S (0, [(0, .ref 0), (1, .int (nI hd))], []) (mw w) Q := by
  refine Sp.go 2 (g := (2, [(0, .ref 0), (1, .int (nI hd))], [.int (nI hd), .ref 0])) rfl ?_
  refine Sp.vr (some (.ref (q hd + 23))) (mw (w)) (k' := 45) (F' := 0) (N' := 0) (C' := 0) (S' := 0) (vs := [.int (nI hd)]) (st := []) rfl rfl rfl rfl (Nat.le_of_ble_eq_true rfl) (Nat.le_of_ble_eq_true rfl) (by decide) (by decide) (Nat.zero_le _) (Nat.zero_le _) (fun Q' h => r_parcelOf_in hP h32 hh (hc.1 hd hh).1 h) ?_
  refine Sp.go 4 (g := (11, [(2, .ref (q hd + 23)), (0, .ref 0), (1, .int (nI hd))], [.ref (q hd + 23)])) rfl ?_
  refine Sp.get (v := .int (f hd)) rfl (hc.1 hd hh).2.1 rfl ?_
  refine Sp.if rfl (fun (h1 : ¬ (f hd : Int32) = (0 : Int32)) => ?_) (fun (h1 : ¬ (¬ (f hd : Int32) = (0 : Int32))) => ?_)
  · skip
    refine Sp.go 1 (g := (25, [(2, .ref (q hd + 23)), (0, .ref 0), (1, .int (nI hd))], [.int (-1)])) rfl ?_
    refine Sp.iret rfl (Or.inl rfl) ?_
    rw [if_neg h1] at hq; exact hq
  · skip
    refine Sp.go 1 (g := (18, [(2, .ref (q hd + 23)), (0, .ref 0), (1, .int (nI hd))], [.ref (q hd + 23)])) rfl ?_
    refine Sp.get (v := .int (l hd)) rfl (hc.1 hd hh).2.1 rfl ?_
    refine Sp.go 1 (g := (25, [(2, .ref (q hd + 23)), (0, .ref 0), (1, .int (nI hd))], [.int (l hd)])) rfl ?_
    refine Sp.iret rfl (Or.inl rfl) ?_
    rw [if_pos (Classical.not_not.mp h1)] at hq; exact hq
theorem r_arrival_out {X : mX} {C S : Nat} {Q : Outcome → mM → Prop} {w : mWd} {x : Int32} (hx : x < 0 ∨ w.f 3 ≤ x) (hq : Q (.returned (some (.int (-1)))) (mw w)) : Sp X 37 1 21 C S (0, [(0, .ref 0), (1, .int (x))], []) (mw w) Q := by
  refine Sp.go 2 (g := (2, [(0, .ref 0), (1, .int (x))], [.int (x), .ref 0])) rfl ?_
  refine Sp.vr (some (.null)) (mw (w)) (k' := 45) (F' := 0) (N' := 0) (C' := 0) (S' := 0) (vs := [.int (x)]) (st := []) rfl rfl rfl rfl (Nat.le_of_ble_eq_true rfl) (Nat.le_of_ble_eq_true rfl) (by decide) (by decide) (Nat.zero_le _) (Nat.zero_le _) (fun Q' h => r_parcelOf_out hx h) ?_
  refine Sp.go 4 (g := (25, [(2, .null), (0, .ref 0), (1, .int (x))], [.int (-1)])) rfl ?_
  refine Sp.iret rfl (Or.inl rfl) ?_
  exact hq
theorem r_step_in {X : mX} {C S : Nat} {Q : Outcome → mM → Prop} {w : mWd} {P hd : Nat} {q : Nat → Nat} {g t l f : Nat → Int32} {nd : Nat → Nat → Int32} (hP : w.f 3 = nI P) (h32 : P ≤ 32) (hh : hd < P) (hc : c_P w P q g t l f nd) (h0 : ¬ t hd < 0) {e : Nat} (hl : l hd ≤ nI e) (he : e < 65) {k : Int32} (hq : Q (.returned (some (.int (p_node (nd hd) (t hd) (l hd) k)))) (mw w)) : Sp X 38 1 21 C S (0, [(0, .ref 0), (1, .int (nI hd)), (2, .int (k))], []) (mw w) Q := by
  refine Sp.go 2 (g := (2, [(0, .ref 0), (1, .int (nI hd)), (2, .int (k))], [.int (nI hd), .ref 0])) rfl ?_
  refine Sp.vr (some (.ref (q hd + 23))) (mw (w)) (k' := 45) (F' := 0) (N' := 0) (C' := 0) (S' := 0) (vs := [.int (nI hd)]) (st := []) rfl rfl rfl rfl (Nat.le_of_ble_eq_true rfl) (Nat.le_of_ble_eq_true rfl) (by decide) (by decide) (Nat.zero_le _) (Nat.zero_le _) (fun Q' h => r_parcelOf_in hP h32 hh (hc.1 hd hh).1 h) ?_
  refine Sp.go 5 (g := (16, [(3, .ref (q hd + 23)), (0, .ref 0), (1, .int (nI hd)), (2, .int (k))], [.int (k), .ref (q hd + 23)])) rfl ?_
  refine Sp.vr (some (.int (p_node (nd hd) (t hd) (l hd) (k)))) (mw (w)) (k' := 17) (F' := 0) (N' := 0) (C' := 0) (S' := 0) (vs := [.int (k)]) (st := []) rfl (hc.1 hd hh).2.1 rfl rfl (Nat.le_of_ble_eq_true rfl) (Nat.le_of_ble_eq_true rfl) (by decide) (by decide) (Nat.zero_le _) (Nat.zero_le _) (fun Q' h => p_nodeFor h0 hl he (hc.1 hd hh).2.1 (hc.1 hd hh).2.2.1 h) ?_
  refine Sp.iret rfl (Or.inl rfl) ?_
  exact hq
theorem r_step_out {X : mX} {C S : Nat} {Q : Outcome → mM → Prop} {w : mWd} {x k : Int32} (hx : x < 0 ∨ w.f 3 ≤ x) (hq : Q (.returned (some (.int (-1)))) (mw w)) : Sp X 38 1 21 C S (0, [(0, .ref 0), (1, .int (x)), (2, .int (k))], []) (mw w) Q := by
  refine Sp.go 2 (g := (2, [(0, .ref 0), (1, .int (x)), (2, .int (k))], [.int (x), .ref 0])) rfl ?_
  refine Sp.vr (some (.null)) (mw (w)) (k' := 45) (F' := 0) (N' := 0) (C' := 0) (S' := 0) (vs := [.int (x)]) (st := []) rfl rfl rfl rfl (Nat.le_of_ble_eq_true rfl) (Nat.le_of_ble_eq_true rfl) (by decide) (by decide) (Nat.zero_le _) (Nat.zero_le _) (fun Q' h => r_parcelOf_out hx h) ?_
  refine Sp.go 5 (g := (19, [(3, .null), (0, .ref 0), (1, .int (x)), (2, .int (k))], [.int (-1)])) rfl ?_
  refine Sp.iret rfl (Or.inl rfl) ?_
  exact hq
theorem r_tick_nI {t : Nat} (h : t < 64) : r_tick (nI t) = true := by
  simp only [r_tick, Bool.and_eq_true, Bool.not_eq_true', decide_eq_false_iff_not, decide_eq_true_eq]
  exact ⟨nI_pos (by omega), (nI_lt' (b := 64) (by omega) (by omega)).mpr h⟩
theorem r_linkUsed_in {X : mX} {C S : Nat} {Q : Outcome → mM → Prop} {w : mWd} {a b t : Nat} (ha : a < 8) (hb : b < 8) (ht : t < 64) (hp : n_pair (w.f 2) (nI a) (nI b) = true) (hq : Q (.returned (some (.int (m_b2 (bt (w.a 4 (t * 8 + a)) b))))) (mw w)) : Sp X 39 3 64 C S (0, [(0, .ref 0), (1, .int (nI a)), (2, .int (nI b)), (3, .int (nI t))], []) (mw w) Q := by
  refine Sp.go 1 (g := (1, [(0, .ref 0), (1, .int (nI a)), (2, .int (nI b)), (3, .int (nI t))], [.ref 0])) rfl ?_
  refine Sp.get (v := .ref 1) rfl rfl rfl ?_
  refine Sp.go 2 (g := (6, [(0, .ref 0), (1, .int (nI a)), (2, .int (nI b)), (3, .int (nI t))], [.int (nI b), .int (nI a), .ref 1])) rfl ?_
  refine Sp.vr (some (.int (m_b2 (n_pair (w.f 2) (nI a) (nI b))))) (mw (w)) (k' := 3) (F' := 2) (N' := 42) (C' := 0) (S' := 0) (vs := [.int (nI a), .int (nI b)]) (st := []) rfl rfl rfl rfl (Nat.le_of_ble_eq_true rfl) (Nat.le_of_ble_eq_true rfl) (by decide) (by decide) (Nat.zero_le _) (Nat.zero_le _) (fun Q' h => n_isPair h) ?_
  refine Sp.ifb rfl (fun u1 => absurd u1 (by rw [hp]; decide)) (fun u1 => ?_)
  refine Sp.go 1 (g := (13, [(0, .ref 0), (1, .int (nI a)), (2, .int (nI b)), (3, .int (nI t))], [.int (nI t)])) rfl ?_
  refine Sp.sr (some (.int (m_b2 (r_tick (nI t))))) (mw (w)) (k' := 43) (F' := 0) (N' := 0) (C' := 0) (S' := 0) (vs := [.int (nI t)]) (st := []) rfl (by decide) rfl (Nat.le_of_ble_eq_true rfl) (Nat.le_of_ble_eq_true rfl) (by decide) (by decide) (Nat.zero_le _) (Nat.zero_le _) (fun Q' h => r_isTick h) ?_
  refine Sp.ifb rfl (fun u2 => absurd u2 (by rw [r_tick_nI ht]; decide)) (fun u2 => ?_)
  refine Sp.go 1 (g := (20, [(0, .ref 0), (1, .int (nI a)), (2, .int (nI b)), (3, .int (nI t))], [.ref 0])) rfl ?_
  refine Sp.get (v := .ref 1) rfl rfl rfl ?_
  refine Sp.go 3 (g := (26, [(0, .ref 0), (1, .int (nI a)), (2, .int (nI b)), (3, .int (nI t))], [.int (nI t), .int (nI b), .int (nI a), .ref 1])) rfl ?_
  refine Sp.vr (some (.int (m_b2 (bt (w.a 4 (t * 8 + a)) b)))) (mw (w)) (k' := 8) (F' := 1) (N' := 21) (C' := 0) (S' := 0) (vs := [.int (nI a), .int (nI b), .int (nI t)]) (st := []) rfl rfl rfl rfl (Nat.le_of_ble_eq_true rfl) (Nat.le_of_ble_eq_true rfl) (by decide) (by decide) (Nat.zero_le _) (Nat.zero_le _) (fun Q' h => n_usersOfLink (by omega) (by omega) (by omega) h) ?_
  refine Sp.go 1 (g := (33, [(0, .ref 0), (1, .int (nI a)), (2, .int (nI b)), (3, .int (nI t))], [.int (m_b2 (bt (w.a 4 (t * 8 + a)) b))])) rfl ?_
  refine Sp.iret rfl (Or.inl rfl) ?_
  exact hq
theorem r_open1 {X : mX} {C S : Nat} {Q : Outcome → mM → Prop} {w : mWd} {a b t : Nat} (ha : a < 8) (hb : b < 8) (ht : t < 64) (hq : Q (.returned (some (.int (m_b2 (bt (w.a 3 (t * 8 + a)) b))))) (mw w)) : Sp X 5 1 21 C S (0, [(0, .ref 1), (1, .int (nI a)), (2, .int (nI b)), (3, .int (nI t)), (4, .int (nI t + 1))], []) (mw w) Q := by
  rw [← nI_succ]
  refine n_isOpenWithin ha hb (by omega) (by omega) ?_
  rw [show t + 1 - t = 1 by omega]
  simpa only [m_any, Bool.or_false] using hq
theorem r_open_in {X : mX} {C S : Nat} {Q : Outcome → mM → Prop} {w : mWd} {a b t : Nat} (ha : a < 8) (hb : b < 8) (ht : t < 64) (hp : n_pair (w.f 2) (nI a) (nI b) = true) (hq : Q (.returned (some (.int (m_b2 (bt (w.a 3 (t * 8 + a)) b))))) (mw w)) : Sp X 41 3 64 C S (0, [(0, .ref 0), (1, .int (nI a)), (2, .int (nI b)), (3, .int (nI t))], []) (mw w) Q := by
  refine Sp.go 1 (g := (1, [(0, .ref 0), (1, .int (nI a)), (2, .int (nI b)), (3, .int (nI t))], [.ref 0])) rfl ?_
  refine Sp.get (v := .ref 1) rfl rfl rfl ?_
  refine Sp.go 2 (g := (6, [(0, .ref 0), (1, .int (nI a)), (2, .int (nI b)), (3, .int (nI t))], [.int (nI b), .int (nI a), .ref 1])) rfl ?_
  refine Sp.vr (some (.int (m_b2 (n_pair (w.f 2) (nI a) (nI b))))) (mw (w)) (k' := 3) (F' := 2) (N' := 42) (C' := 0) (S' := 0) (vs := [.int (nI a), .int (nI b)]) (st := []) rfl rfl rfl rfl (Nat.le_of_ble_eq_true rfl) (Nat.le_of_ble_eq_true rfl) (by decide) (by decide) (Nat.zero_le _) (Nat.zero_le _) (fun Q' h => n_isPair h) ?_
  refine Sp.ifb rfl (fun u1 => absurd u1 (by rw [hp]; decide)) (fun u1 => ?_)
  refine Sp.go 1 (g := (13, [(0, .ref 0), (1, .int (nI a)), (2, .int (nI b)), (3, .int (nI t))], [.int (nI t)])) rfl ?_
  refine Sp.sr (some (.int (m_b2 (r_tick (nI t))))) (mw (w)) (k' := 43) (F' := 0) (N' := 0) (C' := 0) (S' := 0) (vs := [.int (nI t)]) (st := []) rfl (by decide) rfl (Nat.le_of_ble_eq_true rfl) (Nat.le_of_ble_eq_true rfl) (by decide) (by decide) (Nat.zero_le _) (Nat.zero_le _) (fun Q' h => r_isTick h) ?_
  refine Sp.ifb rfl (fun u2 => absurd u2 (by rw [r_tick_nI ht]; decide)) (fun u2 => ?_)
  refine Sp.go 1 (g := (20, [(0, .ref 0), (1, .int (nI a)), (2, .int (nI b)), (3, .int (nI t))], [.ref 0])) rfl ?_
  refine Sp.get (v := .ref 1) rfl rfl rfl ?_
  refine Sp.go 6 (g := (29, [(0, .ref 0), (1, .int (nI a)), (2, .int (nI b)), (3, .int (nI t))], [.int ((nI t) + 1), .int (nI t), .int (nI b), .int (nI a), .ref 1])) rfl ?_
  refine Sp.vr (some (.int (m_b2 (bt (w.a 3 (t * 8 + a)) b)))) (mw (w)) (k' := 5) (F' := 1) (N' := 21) (C' := 0) (S' := 0) (vs := [.int (nI a), .int (nI b), .int (nI t), .int ((nI t) + 1)]) (st := []) rfl rfl rfl rfl (Nat.le_of_ble_eq_true rfl) (Nat.le_of_ble_eq_true rfl) (by decide) (by decide) (Nat.zero_le _) (Nat.zero_le _) (fun Q' h => r_open1 (by omega) (by omega) (by omega) h) ?_
  refine Sp.ifb rfl (fun h3 => ?_) (fun h3 => ?_)
  · skip
    refine Sp.go 1 (g := (40, [(0, .ref 0), (1, .int (nI a)), (2, .int (nI b)), (3, .int (nI t))], [.int 0])) rfl ?_
    refine Sp.iret rfl (Or.inr ⟨rfl, Or.inl rfl⟩) ?_
    rw [h3] at hq; exact hq
  · skip
    refine Sp.go 2 (g := (40, [(0, .ref 0), (1, .int (nI a)), (2, .int (nI b)), (3, .int (nI t))], [.int 1])) rfl ?_
    refine Sp.iret rfl (Or.inr ⟨rfl, Or.inr rfl⟩) ?_
    rw [h3] at hq; exact hq
theorem r_linkUsed_out {X : mX} {C S : Nat} {Q : Outcome → mM → Prop} {w : mWd} {x y z : Int32} (hn : n_pair (w.f 2) x y = false ∨ r_tick z = false) (hq : Q (.returned (some (.int 0))) (mw w)) : Sp X 39 3 64 C S (0, [(0, .ref 0), (1, .int (x)), (2, .int (y)), (3, .int (z))], []) (mw w) Q := by
  cases hp : n_pair (w.f 2) x y with
  | false =>
    refine Sp.go 1 (g := (1, [(0, .ref 0), (1, .int (x)), (2, .int (y)), (3, .int (z))], [.ref 0])) rfl ?_
    refine Sp.get (v := .ref 1) rfl rfl rfl ?_
    refine Sp.go 2 (g := (6, [(0, .ref 0), (1, .int (x)), (2, .int (y)), (3, .int (z))], [.int (y), .int (x), .ref 1])) rfl ?_
    refine Sp.vr (some (.int (m_b2 (n_pair (w.f 2) (x) (y))))) (mw (w)) (k' := 3) (F' := 2) (N' := 42) (C' := 0) (S' := 0) (vs := [.int (x), .int (y)]) (st := []) rfl rfl rfl rfl (Nat.le_of_ble_eq_true rfl) (Nat.le_of_ble_eq_true rfl) (by decide) (by decide) (Nat.zero_le _) (Nat.zero_le _) (fun Q' h => n_isPair h) ?_
    refine Sp.ifb rfl (fun u1 => ?_) (fun u1 => absurd u1 (by rw [hp]; decide))
    refine Sp.go 1 (g := (33, [(0, .ref 0), (1, .int (x)), (2, .int (y)), (3, .int (z))], [.int 0])) rfl ?_
    refine Sp.iret rfl (Or.inl rfl) ?_
    exact hq
  | true =>
    have ht : r_tick z = false := hn.resolve_left (by rw [hp]; decide)
    refine Sp.go 1 (g := (1, [(0, .ref 0), (1, .int (x)), (2, .int (y)), (3, .int (z))], [.ref 0])) rfl ?_
    refine Sp.get (v := .ref 1) rfl rfl rfl ?_
    refine Sp.go 2 (g := (6, [(0, .ref 0), (1, .int (x)), (2, .int (y)), (3, .int (z))], [.int (y), .int (x), .ref 1])) rfl ?_
    refine Sp.vr (some (.int (m_b2 (n_pair (w.f 2) (x) (y))))) (mw (w)) (k' := 3) (F' := 2) (N' := 42) (C' := 0) (S' := 0) (vs := [.int (x), .int (y)]) (st := []) rfl rfl rfl rfl (Nat.le_of_ble_eq_true rfl) (Nat.le_of_ble_eq_true rfl) (by decide) (by decide) (Nat.zero_le _) (Nat.zero_le _) (fun Q' h => n_isPair h) ?_
    refine Sp.ifb rfl (fun u1 => absurd u1 (by rw [hp]; decide)) (fun u1 => ?_)
    refine Sp.go 1 (g := (13, [(0, .ref 0), (1, .int (x)), (2, .int (y)), (3, .int (z))], [.int (z)])) rfl ?_
    refine Sp.sr (some (.int (m_b2 (r_tick (z))))) (mw (w)) (k' := 43) (F' := 0) (N' := 0) (C' := 0) (S' := 0) (vs := [.int (z)]) (st := []) rfl (by decide) rfl (Nat.le_of_ble_eq_true rfl) (Nat.le_of_ble_eq_true rfl) (by decide) (by decide) (Nat.zero_le _) (Nat.zero_le _) (fun Q' h => r_isTick h) ?_
    refine Sp.ifb rfl (fun u2 => ?_) (fun u2 => absurd u2 (by rw [ht]; decide))
    refine Sp.go 1 (g := (33, [(0, .ref 0), (1, .int (x)), (2, .int (y)), (3, .int (z))], [.int 0])) rfl ?_
    refine Sp.iret rfl (Or.inl rfl) ?_
    exact hq
theorem r_open_out {X : mX} {C S : Nat} {Q : Outcome → mM → Prop} {w : mWd} {x y z : Int32} (hn : n_pair (w.f 2) x y = false ∨ r_tick z = false) (hq : Q (.returned (some (.int 0))) (mw w)) : Sp X 41 3 64 C S (0, [(0, .ref 0), (1, .int (x)), (2, .int (y)), (3, .int (z))], []) (mw w) Q := by
  cases hp : n_pair (w.f 2) x y with
  | false =>
    refine Sp.go 1 (g := (1, [(0, .ref 0), (1, .int (x)), (2, .int (y)), (3, .int (z))], [.ref 0])) rfl ?_
    refine Sp.get (v := .ref 1) rfl rfl rfl ?_
    refine Sp.go 2 (g := (6, [(0, .ref 0), (1, .int (x)), (2, .int (y)), (3, .int (z))], [.int (y), .int (x), .ref 1])) rfl ?_
    refine Sp.vr (some (.int (m_b2 (n_pair (w.f 2) (x) (y))))) (mw (w)) (k' := 3) (F' := 2) (N' := 42) (C' := 0) (S' := 0) (vs := [.int (x), .int (y)]) (st := []) rfl rfl rfl rfl (Nat.le_of_ble_eq_true rfl) (Nat.le_of_ble_eq_true rfl) (by decide) (by decide) (Nat.zero_le _) (Nat.zero_le _) (fun Q' h => n_isPair h) ?_
    refine Sp.ifb rfl (fun u1 => ?_) (fun u1 => absurd u1 (by rw [hp]; decide))
    refine Sp.go 1 (g := (40, [(0, .ref 0), (1, .int (x)), (2, .int (y)), (3, .int (z))], [.int 0])) rfl ?_
    refine Sp.iret rfl (Or.inr ⟨rfl, Or.inl rfl⟩) ?_
    exact hq
  | true =>
    have ht : r_tick z = false := hn.resolve_left (by rw [hp]; decide)
    refine Sp.go 1 (g := (1, [(0, .ref 0), (1, .int (x)), (2, .int (y)), (3, .int (z))], [.ref 0])) rfl ?_
    refine Sp.get (v := .ref 1) rfl rfl rfl ?_
    refine Sp.go 2 (g := (6, [(0, .ref 0), (1, .int (x)), (2, .int (y)), (3, .int (z))], [.int (y), .int (x), .ref 1])) rfl ?_
    refine Sp.vr (some (.int (m_b2 (n_pair (w.f 2) (x) (y))))) (mw (w)) (k' := 3) (F' := 2) (N' := 42) (C' := 0) (S' := 0) (vs := [.int (x), .int (y)]) (st := []) rfl rfl rfl rfl (Nat.le_of_ble_eq_true rfl) (Nat.le_of_ble_eq_true rfl) (by decide) (by decide) (Nat.zero_le _) (Nat.zero_le _) (fun Q' h => n_isPair h) ?_
    refine Sp.ifb rfl (fun u1 => absurd u1 (by rw [hp]; decide)) (fun u1 => ?_)
    refine Sp.go 1 (g := (13, [(0, .ref 0), (1, .int (x)), (2, .int (y)), (3, .int (z))], [.int (z)])) rfl ?_
    refine Sp.sr (some (.int (m_b2 (r_tick (z))))) (mw (w)) (k' := 43) (F' := 0) (N' := 0) (C' := 0) (S' := 0) (vs := [.int (z)]) (st := []) rfl (by decide) rfl (Nat.le_of_ble_eq_true rfl) (Nat.le_of_ble_eq_true rfl) (by decide) (by decide) (Nat.zero_le _) (Nat.zero_le _) (fun Q' h => r_isTick h) ?_
    refine Sp.ifb rfl (fun u2 => ?_) (fun u2 => absurd u2 (by rw [ht]; decide))
    refine Sp.go 1 (g := (40, [(0, .ref 0), (1, .int (x)), (2, .int (y)), (3, .int (z))], [.int 0])) rfl ?_
    refine Sp.iret rfl (Or.inr ⟨rfl, Or.inl rfl⟩) ?_
    exact hq
theorem r_stored_in {X : mX} {C S : Nat} {Q : Outcome → mM → Prop} {w : mWd} {a t : Nat} (ha : a < 8) (ht : t < 64) (hp : n_is (w.f 2) (nI a) = true) (hq : Q (.returned (some (.int (w.a 5 (t * 8 + a))))) (mw w)) : Sp X 40 2 43 C S (0, [(0, .ref 0), (1, .int (nI a)), (2, .int (nI t))], []) (mw w) Q := by
  refine Sp.go 1 (g := (1, [(0, .ref 0), (1, .int (nI a)), (2, .int (nI t))], [.ref 0])) rfl ?_
  refine Sp.get (v := .ref 1) rfl rfl rfl ?_
  refine Sp.go 1 (g := (5, [(0, .ref 0), (1, .int (nI a)), (2, .int (nI t))], [.int (nI a), .ref 1])) rfl ?_
  refine Sp.vr (some (.int (m_b2 (n_is (w.f 2) (nI a))))) (mw (w)) (k' := 2) (F' := 1) (N' := 21) (C' := 0) (S' := 0) (vs := [.int (nI a)]) (st := []) rfl rfl rfl rfl (Nat.le_of_ble_eq_true rfl) (Nat.le_of_ble_eq_true rfl) (by decide) (by decide) (Nat.zero_le _) (Nat.zero_le _) (fun Q' h => n_isNode h) ?_
  refine Sp.ifb rfl (fun u1 => absurd u1 (by rw [hp]; decide)) (fun u1 => ?_)
  refine Sp.go 1 (g := (12, [(0, .ref 0), (1, .int (nI a)), (2, .int (nI t))], [.int (nI t)])) rfl ?_
  refine Sp.sr (some (.int (m_b2 (r_tick (nI t))))) (mw (w)) (k' := 43) (F' := 0) (N' := 0) (C' := 0) (S' := 0) (vs := [.int (nI t)]) (st := []) rfl (by decide) rfl (Nat.le_of_ble_eq_true rfl) (Nat.le_of_ble_eq_true rfl) (by decide) (by decide) (Nat.zero_le _) (Nat.zero_le _) (fun Q' h => r_isTick h) ?_
  refine Sp.ifb rfl (fun u2 => absurd u2 (by rw [r_tick_nI ht]; decide)) (fun u2 => ?_)
  refine Sp.go 1 (g := (19, [(0, .ref 0), (1, .int (nI a)), (2, .int (nI t))], [.ref 0])) rfl ?_
  refine Sp.get (v := .ref 1) rfl rfl rfl ?_
  refine Sp.go 2 (g := (24, [(0, .ref 0), (1, .int (nI a)), (2, .int (nI t))], [.int (nI t), .int (nI a), .ref 1])) rfl ?_
  refine Sp.vr (some (.int (w.a 5 (t * 8 + a)))) (mw (w)) (k' := 9) (F' := 1) (N' := 21) (C' := 0) (S' := 0) (vs := [.int (nI a), .int (nI t)]) (st := []) rfl rfl rfl rfl (Nat.le_of_ble_eq_true rfl) (Nat.le_of_ble_eq_true rfl) (by decide) (by decide) (Nat.zero_le _) (Nat.zero_le _) (fun Q' h => n_usersOfPlaces (by omega) (by omega) h) ?_
  refine Sp.go 1 (g := (31, [(0, .ref 0), (1, .int (nI a)), (2, .int (nI t))], [.int (w.a 5 (t * 8 + a))])) rfl ?_
  refine Sp.iret rfl (Or.inl rfl) ?_
  exact hq
theorem r_free_in {X : mX} {C S : Nat} {Q : Outcome → mM → Prop} {w : mWd} {a t : Nat} (ha : a < 8) (ht : t < 64) (hp : n_is (w.f 2) (nI a) = true) (hq : Q (.returned (some (.int (w.a 2 a - w.a 5 (t * 8 + a))))) (mw w)) : Sp X 42 2 43 C S (0, [(0, .ref 0), (1, .int (nI a)), (2, .int (nI t))], []) (mw w) Q := by
  refine Sp.go 1 (g := (1, [(0, .ref 0), (1, .int (nI a)), (2, .int (nI t))], [.ref 0])) rfl ?_
  refine Sp.get (v := .ref 1) rfl rfl rfl ?_
  refine Sp.go 1 (g := (5, [(0, .ref 0), (1, .int (nI a)), (2, .int (nI t))], [.int (nI a), .ref 1])) rfl ?_
  refine Sp.vr (some (.int (m_b2 (n_is (w.f 2) (nI a))))) (mw (w)) (k' := 2) (F' := 1) (N' := 21) (C' := 0) (S' := 0) (vs := [.int (nI a)]) (st := []) rfl rfl rfl rfl (Nat.le_of_ble_eq_true rfl) (Nat.le_of_ble_eq_true rfl) (by decide) (by decide) (Nat.zero_le _) (Nat.zero_le _) (fun Q' h => n_isNode h) ?_
  refine Sp.ifb rfl (fun u1 => absurd u1 (by rw [hp]; decide)) (fun u1 => ?_)
  refine Sp.go 1 (g := (12, [(0, .ref 0), (1, .int (nI a)), (2, .int (nI t))], [.int (nI t)])) rfl ?_
  refine Sp.sr (some (.int (m_b2 (r_tick (nI t))))) (mw (w)) (k' := 43) (F' := 0) (N' := 0) (C' := 0) (S' := 0) (vs := [.int (nI t)]) (st := []) rfl (by decide) rfl (Nat.le_of_ble_eq_true rfl) (Nat.le_of_ble_eq_true rfl) (by decide) (by decide) (Nat.zero_le _) (Nat.zero_le _) (fun Q' h => r_isTick h) ?_
  refine Sp.ifb rfl (fun u2 => absurd u2 (by rw [r_tick_nI ht]; decide)) (fun u2 => ?_)
  refine Sp.go 1 (g := (19, [(0, .ref 0), (1, .int (nI a)), (2, .int (nI t))], [.ref 0])) rfl ?_
  refine Sp.get (v := .ref 1) rfl rfl rfl ?_
  refine Sp.go 2 (g := (24, [(0, .ref 0), (1, .int (nI a)), (2, .int (nI t))], [.int (nI t), .int (nI a), .ref 1])) rfl ?_
  refine Sp.vr (some (.int (w.a 2 a - w.a 5 (t * 8 + a)))) (mw (w)) (k' := 10) (F' := 1) (N' := 21) (C' := 0) (S' := 0) (vs := [.int (nI a), .int (nI t)]) (st := []) rfl rfl rfl rfl (Nat.le_of_ble_eq_true rfl) (Nat.le_of_ble_eq_true rfl) (by decide) (by decide) (Nat.zero_le _) (Nat.zero_le _) (fun Q' h => n_placesLeft (by omega) (by omega) h) ?_
  refine Sp.go 1 (g := (31, [(0, .ref 0), (1, .int (nI a)), (2, .int (nI t))], [.int (w.a 2 a - w.a 5 (t * 8 + a))])) rfl ?_
  refine Sp.iret rfl (Or.inl rfl) ?_
  exact hq
theorem r_stored_out {X : mX} {C S : Nat} {Q : Outcome → mM → Prop} {w : mWd} {x z : Int32} (hn : n_is (w.f 2) x = false ∨ r_tick z = false) (hq : Q (.returned (some (.int 0))) (mw w)) : Sp X 40 2 43 C S (0, [(0, .ref 0), (1, .int (x)), (2, .int (z))], []) (mw w) Q := by
  cases hp : n_is (w.f 2) x with
  | false =>
    refine Sp.go 1 (g := (1, [(0, .ref 0), (1, .int (x)), (2, .int (z))], [.ref 0])) rfl ?_
    refine Sp.get (v := .ref 1) rfl rfl rfl ?_
    refine Sp.go 1 (g := (5, [(0, .ref 0), (1, .int (x)), (2, .int (z))], [.int (x), .ref 1])) rfl ?_
    refine Sp.vr (some (.int (m_b2 (n_is (w.f 2) x)))) (mw (w)) (k' := 2) (F' := 1) (N' := 21) (C' := 0) (S' := 0) (vs := [.int (x)]) (st := []) rfl rfl rfl rfl (Nat.le_of_ble_eq_true rfl) (Nat.le_of_ble_eq_true rfl) (by decide) (by decide) (Nat.zero_le _) (Nat.zero_le _) (fun Q' h => n_isNode h) ?_
    refine Sp.ifb rfl (fun u1 => ?_) (fun u1 => absurd u1 (by rw [hp]; decide))
    refine Sp.go 1 (g := (31, [(0, .ref 0), (1, .int (x)), (2, .int (z))], [.int 0])) rfl ?_
    refine Sp.iret rfl (Or.inl rfl) ?_
    exact hq
  | true =>
    have ht : r_tick z = false := hn.resolve_left (by rw [hp]; decide)
    refine Sp.go 1 (g := (1, [(0, .ref 0), (1, .int (x)), (2, .int (z))], [.ref 0])) rfl ?_
    refine Sp.get (v := .ref 1) rfl rfl rfl ?_
    refine Sp.go 1 (g := (5, [(0, .ref 0), (1, .int (x)), (2, .int (z))], [.int (x), .ref 1])) rfl ?_
    refine Sp.vr (some (.int (m_b2 (n_is (w.f 2) x)))) (mw (w)) (k' := 2) (F' := 1) (N' := 21) (C' := 0) (S' := 0) (vs := [.int (x)]) (st := []) rfl rfl rfl rfl (Nat.le_of_ble_eq_true rfl) (Nat.le_of_ble_eq_true rfl) (by decide) (by decide) (Nat.zero_le _) (Nat.zero_le _) (fun Q' h => n_isNode h) ?_
    refine Sp.ifb rfl (fun u1 => absurd u1 (by rw [hp]; decide)) (fun u1 => ?_)
    refine Sp.go 1 (g := (12, [(0, .ref 0), (1, .int (x)), (2, .int (z))], [.int (z)])) rfl ?_
    refine Sp.sr (some (.int (m_b2 (r_tick (z))))) (mw (w)) (k' := 43) (F' := 0) (N' := 0) (C' := 0) (S' := 0) (vs := [.int (z)]) (st := []) rfl (by decide) rfl (Nat.le_of_ble_eq_true rfl) (Nat.le_of_ble_eq_true rfl) (by decide) (by decide) (Nat.zero_le _) (Nat.zero_le _) (fun Q' h => r_isTick h) ?_
    refine Sp.ifb rfl (fun u2 => ?_) (fun u2 => absurd u2 (by rw [ht]; decide))
    refine Sp.go 1 (g := (31, [(0, .ref 0), (1, .int (x)), (2, .int (z))], [.int 0])) rfl ?_
    refine Sp.iret rfl (Or.inl rfl) ?_
    exact hq
theorem r_free_out {X : mX} {C S : Nat} {Q : Outcome → mM → Prop} {w : mWd} {x z : Int32} (hn : n_is (w.f 2) x = false ∨ r_tick z = false) (hq : Q (.returned (some (.int (-1)))) (mw w)) : Sp X 42 2 43 C S (0, [(0, .ref 0), (1, .int (x)), (2, .int (z))], []) (mw w) Q := by
  cases hp : n_is (w.f 2) x with
  | false =>
    refine Sp.go 1 (g := (1, [(0, .ref 0), (1, .int (x)), (2, .int (z))], [.ref 0])) rfl ?_
    refine Sp.get (v := .ref 1) rfl rfl rfl ?_
    refine Sp.go 1 (g := (5, [(0, .ref 0), (1, .int (x)), (2, .int (z))], [.int (x), .ref 1])) rfl ?_
    refine Sp.vr (some (.int (m_b2 (n_is (w.f 2) x)))) (mw (w)) (k' := 2) (F' := 1) (N' := 21) (C' := 0) (S' := 0) (vs := [.int (x)]) (st := []) rfl rfl rfl rfl (Nat.le_of_ble_eq_true rfl) (Nat.le_of_ble_eq_true rfl) (by decide) (by decide) (Nat.zero_le _) (Nat.zero_le _) (fun Q' h => n_isNode h) ?_
    refine Sp.ifb rfl (fun u1 => ?_) (fun u1 => absurd u1 (by rw [hp]; decide))
    refine Sp.go 1 (g := (31, [(0, .ref 0), (1, .int (x)), (2, .int (z))], [.int (-1)])) rfl ?_
    refine Sp.iret rfl (Or.inl rfl) ?_
    exact hq
  | true =>
    have ht : r_tick z = false := hn.resolve_left (by rw [hp]; decide)
    refine Sp.go 1 (g := (1, [(0, .ref 0), (1, .int (x)), (2, .int (z))], [.ref 0])) rfl ?_
    refine Sp.get (v := .ref 1) rfl rfl rfl ?_
    refine Sp.go 1 (g := (5, [(0, .ref 0), (1, .int (x)), (2, .int (z))], [.int (x), .ref 1])) rfl ?_
    refine Sp.vr (some (.int (m_b2 (n_is (w.f 2) x)))) (mw (w)) (k' := 2) (F' := 1) (N' := 21) (C' := 0) (S' := 0) (vs := [.int (x)]) (st := []) rfl rfl rfl rfl (Nat.le_of_ble_eq_true rfl) (Nat.le_of_ble_eq_true rfl) (by decide) (by decide) (Nat.zero_le _) (Nat.zero_le _) (fun Q' h => n_isNode h) ?_
    refine Sp.ifb rfl (fun u1 => absurd u1 (by rw [hp]; decide)) (fun u1 => ?_)
    refine Sp.go 1 (g := (12, [(0, .ref 0), (1, .int (x)), (2, .int (z))], [.int (z)])) rfl ?_
    refine Sp.sr (some (.int (m_b2 (r_tick (z))))) (mw (w)) (k' := 43) (F' := 0) (N' := 0) (C' := 0) (S' := 0) (vs := [.int (z)]) (st := []) rfl (by decide) rfl (Nat.le_of_ble_eq_true rfl) (Nat.le_of_ble_eq_true rfl) (by decide) (by decide) (Nat.zero_le _) (Nat.zero_le _) (fun Q' h => r_isTick h) ?_
    refine Sp.ifb rfl (fun u2 => ?_) (fun u2 => absurd u2 (by rw [ht]; decide))
    refine Sp.go 1 (g := (31, [(0, .ref 0), (1, .int (x)), (2, .int (z))], [.int (-1)])) rfl ?_
    refine Sp.iret rfl (Or.inl rfl) ?_
    exact hq
end
section
/-! The desk: checks, node, contact, whatIf, tick. Rows laid by wip/gen/desk2.py. -/
theorem r_checkPair_ok {X : mX} {C S : Nat} {Q : Outcome → mM → Prop} {w : mWd} {x y : Int32} (hp : n_pair (w.f 2) x y = true) (hq : Q (.returned none) (mw w)) : Sp X 46 6 82 C S (0, [(0, .ref 0), (1, .int (x)), (2, .int (y))], []) (mw w) Q := by
  refine Sp.go 1 (g := (1, [(0, .ref 0), (1, .int (x)), (2, .int (y))], [.ref 0])) rfl ?_
  refine Sp.get (v := .ref 1) rfl rfl rfl ?_
  refine Sp.go 2 (g := (6, [(0, .ref 0), (1, .int (x)), (2, .int (y))], [.int (y), .int (x), .ref 1])) rfl ?_
  refine Sp.vr (some (.int (m_b2 (n_pair (w.f 2) (x) (y))))) (mw (w)) (k' := 3) (F' := 2) (N' := 42) (C' := 0) (S' := 0) (vs := [.int (x), .int (y)]) (st := []) rfl rfl rfl rfl (Nat.le_of_ble_eq_true rfl) (Nat.le_of_ble_eq_true rfl) (by decide) (by decide) (Nat.zero_le _) (Nat.zero_le _) (fun Q' h => n_isPair h) ?_
  refine Sp.ifbn rfl (fun u1 => ?_) (fun u1 => absurd u1 (by rw [hp]; decide))
  refine Sp.vret rfl rfl ?_
  exact hq
theorem r_checkPair_bad {X : mX} {C S : Nat} {Q : Outcome → mM → Prop} {w : mWd} {x y : Int32} (hp : n_pair (w.f 2) x y = false) (hC : 1 ≤ C) (hS : 6 ≤ S) (hx : 23 ≤ w.nx) (hq : Q (.threw 0) (mw (w.mk none 6))) : Sp X 46 6 82 C S (0, [(0, .ref 0), (1, .int (x)), (2, .int (y))], []) (mw w) Q := by
  refine Sp.go 1 (g := (1, [(0, .ref 0), (1, .int (x)), (2, .int (y))], [.ref 0])) rfl ?_
  refine Sp.get (v := .ref 1) rfl rfl rfl ?_
  refine Sp.go 2 (g := (6, [(0, .ref 0), (1, .int (x)), (2, .int (y))], [.int (y), .int (x), .ref 1])) rfl ?_
  refine Sp.vr (some (.int (m_b2 (n_pair (w.f 2) (x) (y))))) (mw (w)) (k' := 3) (F' := 2) (N' := 42) (C' := 0) (S' := 0) (vs := [.int (x), .int (y)]) (st := []) rfl rfl rfl rfl (Nat.le_of_ble_eq_true rfl) (Nat.le_of_ble_eq_true rfl) (by decide) (by decide) (Nat.zero_le _) (Nat.zero_le _) (fun Q' h => n_isPair h) ?_
  refine Sp.ifbn rfl (fun u1 => absurd u1 (by rw [hp]; decide)) (fun u1 => ?_)
  refine Sp.th rfl (by decide) (Nat.le_of_ble_eq_true rfl) hC hS rfl hx ?_
  exact hq
theorem r_checkBooking_b0 {X : mX} {C S : Nat} {Q : Outcome → mM → Prop} {w : mWd} {x y z : Int32} (hp : n_pair (w.f 2) x y = false) (hC : 1 ≤ C) (hS : 6 ≤ S) (hx : 23 ≤ w.nx) (hq : Q (.threw 0) (mw (w.mk none 6))) : Sp X 47 7 104 C S (0, [(0, .ref 0), (1, .int (x)), (2, .int (y)), (3, .int (z))], []) (mw w) Q := by
  refine Sp.go 3 (g := (3, [(0, .ref 0), (1, .int (x)), (2, .int (y)), (3, .int (z))], [.int (y), .int (x), .ref 0])) rfl ?_
  refine Sp.vt 0 (mw (w.mk none 6)) (k' := 46) (F' := 6) (N' := 82) (C' := 1) (S' := 6) (vs := [.int (x), .int (y)]) (st := []) rfl rfl rfl rfl (Nat.le_of_ble_eq_true rfl) (Nat.le_of_ble_eq_true rfl) (by decide) (by decide) hC hS (by decide) (fun Q' h => r_checkPair_bad hp (by decide) (by decide) hx h) (Or.inl ⟨rfl, ?_⟩)
  exact hq
theorem r_checkBooking_b1 {X : mX} {C S : Nat} {Q : Outcome → mM → Prop} {w : mWd} {x y z : Int32} (hp : n_pair (w.f 2) x y = true) (hz : z < w.f 4 ∨ 64 ≤ z) (hC : 1 ≤ C) (hS : 6 ≤ S) (hx : 23 ≤ w.nx) (hq : Q (.threw 0) (mw (w.mk none 6))) : Sp X 47 7 104 C S (0, [(0, .ref 0), (1, .int (x)), (2, .int (y)), (3, .int (z))], []) (mw w) Q := by
  by_cases hn : z < w.f 4
  · skip
    refine Sp.go 3 (g := (3, [(0, .ref 0), (1, .int (x)), (2, .int (y)), (3, .int (z))], [.int (y), .int (x), .ref 0])) rfl ?_
    refine Sp.vr none (mw (w)) (k' := 46) (F' := 6) (N' := 82) (C' := 0) (S' := 0) (vs := [.int (x), .int (y)]) (st := []) rfl rfl rfl rfl (Nat.le_of_ble_eq_true rfl) (Nat.le_of_ble_eq_true rfl) (by decide) (by decide) (Nat.zero_le _) (Nat.zero_le _) (fun Q' h => r_checkPair_ok hp h) ?_
    refine Sp.go 2 (g := (8, [(0, .ref 0), (1, .int (x)), (2, .int (y)), (3, .int (z))], [.ref 0, .int (z)])) rfl ?_
    refine Sp.get (v := .int (w.f 4)) rfl rfl rfl ?_
    refine Sp.icmp rfl (fun u1 => ?_) (fun u1 => absurd hn u1)
    refine Sp.th rfl (by decide) (Nat.le_of_ble_eq_true rfl) hC hS rfl hx ?_
    exact hq
  · skip
    refine Sp.go 3 (g := (3, [(0, .ref 0), (1, .int (x)), (2, .int (y)), (3, .int (z))], [.int (y), .int (x), .ref 0])) rfl ?_
    refine Sp.vr none (mw (w)) (k' := 46) (F' := 6) (N' := 82) (C' := 0) (S' := 0) (vs := [.int (x), .int (y)]) (st := []) rfl rfl rfl rfl (Nat.le_of_ble_eq_true rfl) (Nat.le_of_ble_eq_true rfl) (by decide) (by decide) (Nat.zero_le _) (Nat.zero_le _) (fun Q' h => r_checkPair_ok hp h) ?_
    refine Sp.go 2 (g := (8, [(0, .ref 0), (1, .int (x)), (2, .int (y)), (3, .int (z))], [.ref 0, .int (z)])) rfl ?_
    refine Sp.get (v := .int (w.f 4)) rfl rfl rfl ?_
    refine Sp.icmp rfl (fun u1 => absurd u1 hn) (fun u1 => ?_)
    refine Sp.go 2 (g := (17, [(0, .ref 0), (1, .int (x)), (2, .int (y)), (3, .int (z))], [.int 64, .int (z)])) rfl ?_
    refine Sp.icmp rfl (fun u2 => absurd u2 (k2_nlt (hz.resolve_left hn))) (fun u2 => ?_)
    refine Sp.th rfl (by decide) (Nat.le_of_ble_eq_true rfl) hC hS rfl hx ?_
    exact hq
theorem r_checkBooking_b2 {X : mX} {C S : Nat} {Q : Outcome → mM → Prop} {w : mWd} {x y z : Int32} (hp : n_pair (w.f 2) x y = true) (hn : ¬ z < w.f 4) (h64 : z < 64) (hg : (32 : Int32) ≤ w.f 3) (hC : 1 ≤ C) (hS : 6 ≤ S) (hx : 23 ≤ w.nx) (hq : Q (.threw 1) (mw (w.mk none 6))) : Sp X 47 7 104 C S (0, [(0, .ref 0), (1, .int (x)), (2, .int (y)), (3, .int (z))], []) (mw w) Q := by
  refine Sp.go 3 (g := (3, [(0, .ref 0), (1, .int (x)), (2, .int (y)), (3, .int (z))], [.int (y), .int (x), .ref 0])) rfl ?_
  refine Sp.vr none (mw (w)) (k' := 46) (F' := 6) (N' := 82) (C' := 0) (S' := 0) (vs := [.int (x), .int (y)]) (st := []) rfl rfl rfl rfl (Nat.le_of_ble_eq_true rfl) (Nat.le_of_ble_eq_true rfl) (by decide) (by decide) (Nat.zero_le _) (Nat.zero_le _) (fun Q' h => r_checkPair_ok hp h) ?_
  refine Sp.go 2 (g := (8, [(0, .ref 0), (1, .int (x)), (2, .int (y)), (3, .int (z))], [.ref 0, .int (z)])) rfl ?_
  refine Sp.get (v := .int (w.f 4)) rfl rfl rfl ?_
  refine Sp.icmp rfl (fun u1 => absurd u1 hn) (fun u1 => ?_)
  refine Sp.go 2 (g := (17, [(0, .ref 0), (1, .int (x)), (2, .int (y)), (3, .int (z))], [.int 64, .int (z)])) rfl ?_
  refine Sp.icmp rfl (fun u2 => ?_) (fun u2 => absurd h64 u2)
  refine Sp.go 1 (g := (31, [(0, .ref 0), (1, .int (x)), (2, .int (y)), (3, .int (z))], [.ref 0])) rfl ?_
  refine Sp.get (v := .int (w.f 3)) rfl rfl rfl ?_
  refine Sp.go 1 (g := (36, [(0, .ref 0), (1, .int (x)), (2, .int (y)), (3, .int (z))], [.int 32, .int (w.f 3)])) rfl ?_
  refine Sp.icmp rfl (fun u3 => absurd u3 (k2_nlt hg)) (fun u3 => ?_)
  refine Sp.th rfl (by decide) (Nat.le_of_ble_eq_true rfl) hC hS rfl hx ?_
  exact hq
theorem r_checkBooking_ok {X : mX} {C S : Nat} {Q : Outcome → mM → Prop} {w : mWd} {x y z : Int32} (hp : n_pair (w.f 2) x y = true) (hn : ¬ z < w.f 4) (h64 : z < 64) (hg : w.f 3 < 32) (hq : Q (.returned none) (mw w)) : Sp X 47 7 104 C S (0, [(0, .ref 0), (1, .int (x)), (2, .int (y)), (3, .int (z))], []) (mw w) Q := by
  refine Sp.go 3 (g := (3, [(0, .ref 0), (1, .int (x)), (2, .int (y)), (3, .int (z))], [.int (y), .int (x), .ref 0])) rfl ?_
  refine Sp.vr none (mw (w)) (k' := 46) (F' := 6) (N' := 82) (C' := 0) (S' := 0) (vs := [.int (x), .int (y)]) (st := []) rfl rfl rfl rfl (Nat.le_of_ble_eq_true rfl) (Nat.le_of_ble_eq_true rfl) (by decide) (by decide) (Nat.zero_le _) (Nat.zero_le _) (fun Q' h => r_checkPair_ok hp h) ?_
  refine Sp.go 2 (g := (8, [(0, .ref 0), (1, .int (x)), (2, .int (y)), (3, .int (z))], [.ref 0, .int (z)])) rfl ?_
  refine Sp.get (v := .int (w.f 4)) rfl rfl rfl ?_
  refine Sp.icmp rfl (fun u1 => absurd u1 hn) (fun u1 => ?_)
  refine Sp.go 2 (g := (17, [(0, .ref 0), (1, .int (x)), (2, .int (y)), (3, .int (z))], [.int 64, .int (z)])) rfl ?_
  refine Sp.icmp rfl (fun u2 => ?_) (fun u2 => absurd h64 u2)
  refine Sp.go 1 (g := (31, [(0, .ref 0), (1, .int (x)), (2, .int (y)), (3, .int (z))], [.ref 0])) rfl ?_
  refine Sp.get (v := .int (w.f 3)) rfl rfl rfl ?_
  refine Sp.go 1 (g := (36, [(0, .ref 0), (1, .int (x)), (2, .int (y)), (3, .int (z))], [.int 32, .int (w.f 3)])) rfl ?_
  refine Sp.icmp rfl (fun u3 => ?_) (fun u3 => absurd hg u3)
  refine Sp.vret rfl rfl ?_
  exact hq
theorem r_node_b0 {X : mX} {C S : Nat} {Q : Outcome → mM → Prop} {w : mWd} {x y : Int32} (hb : x < 0 ∨ 8 ≤ x) (hC : 1 ≤ C) (hS : 6 ≤ S) (hx : 23 ≤ w.nx) (hq : Q (.threw 0) (mw (w.mk none 6))) : Sp X 27 6 82 C S (0, [(0, .ref 0), (1, .int (x)), (2, .int (y))], []) (mw w) Q := by
  by_cases h0 : x < 0
  · skip
    refine Sp.go 1 (g := (1, [(0, .ref 0), (1, .int (x)), (2, .int (y))], [.int (x)])) rfl ?_
    refine Sp.if rfl (fun u1 => ?_) (fun u1 => absurd h0 u1)
    refine Sp.th rfl (by decide) (Nat.le_of_ble_eq_true rfl) hC hS rfl hx ?_
    exact hq
  · skip
    refine Sp.go 1 (g := (1, [(0, .ref 0), (1, .int (x)), (2, .int (y))], [.int (x)])) rfl ?_
    refine Sp.if rfl (fun u1 => absurd u1 h0) (fun u1 => ?_)
    refine Sp.go 2 (g := (7, [(0, .ref 0), (1, .int (x)), (2, .int (y))], [.int 8, .int (x)])) rfl ?_
    refine Sp.icmp rfl (fun u2 => absurd u2 (k2_nlt (hb.resolve_left h0))) (fun u2 => ?_)
    refine Sp.th rfl (by decide) (Nat.le_of_ble_eq_true rfl) hC hS rfl hx ?_
    exact hq
theorem r_node_b1 {X : mX} {C S : Nat} {Q : Outcome → mM → Prop} {w : mWd} {n : Nat} {y : Int32} (hn : n < 8) (hb : y < 0 ∨ (4 : Int32) < y) (hC : 1 ≤ C) (hS : 6 ≤ S) (hx : 23 ≤ w.nx) (hq : Q (.threw 0) (mw (w.mk none 6))) : Sp X 27 6 82 C S (0, [(0, .ref 0), (1, .int (nI n)), (2, .int (y))], []) (mw w) Q := by
  by_cases h0 : y < 0
  · skip
    refine Sp.go 1 (g := (1, [(0, .ref 0), (1, .int (nI n)), (2, .int (y))], [.int (nI n)])) rfl ?_
    refine Sp.if rfl (fun u1 => absurd u1 (nI_pos (by omega))) (fun u1 => ?_)
    refine Sp.go 2 (g := (7, [(0, .ref 0), (1, .int (nI n)), (2, .int (y))], [.int 8, .int (nI n)])) rfl ?_
    refine Sp.icmp rfl (fun u2 => ?_) (fun u2 => absurd ((nI_lt' (b := 8) (by omega) (by omega)).mpr hn) u2)
    refine Sp.go 1 (g := (21, [(0, .ref 0), (1, .int (nI n)), (2, .int (y))], [.int (y)])) rfl ?_
    refine Sp.if rfl (fun u3 => ?_) (fun u3 => absurd h0 u3)
    refine Sp.th rfl (by decide) (Nat.le_of_ble_eq_true rfl) hC hS rfl hx ?_
    exact hq
  · skip
    refine Sp.go 1 (g := (1, [(0, .ref 0), (1, .int (nI n)), (2, .int (y))], [.int (nI n)])) rfl ?_
    refine Sp.if rfl (fun u1 => absurd u1 (nI_pos (by omega))) (fun u1 => ?_)
    refine Sp.go 2 (g := (7, [(0, .ref 0), (1, .int (nI n)), (2, .int (y))], [.int 8, .int (nI n)])) rfl ?_
    refine Sp.icmp rfl (fun u2 => ?_) (fun u2 => absurd ((nI_lt' (b := 8) (by omega) (by omega)).mpr hn) u2)
    refine Sp.go 1 (g := (21, [(0, .ref 0), (1, .int (nI n)), (2, .int (y))], [.int (y)])) rfl ?_
    refine Sp.if rfl (fun u3 => absurd u3 h0) (fun u3 => ?_)
    refine Sp.go 2 (g := (26, [(0, .ref 0), (1, .int (nI n)), (2, .int (y))], [.int 4, .int (y)])) rfl ?_
    refine Sp.icmp rfl (fun u4 => absurd u4 (k2_nle (hb.resolve_left h0))) (fun u4 => ?_)
    refine Sp.th rfl (by decide) (Nat.le_of_ble_eq_true rfl) hC hS rfl hx ?_
    exact hq
theorem n_is_nI {m : Int32} {n : Nat} (hn : n < 8) : n_is m (nI n) = bt m n := by
  simp [n_is, nI_pos (n := n) (by omega), show nI n < 8 from (nI_lt' (b := 8) (by omega) (by omega)).mpr hn, nI_clamp (n := n) (by omega)]
theorem r_node_b2 {X : mX} {C S : Nat} {Q : Outcome → mM → Prop} {w : mWd} {n : Nat} {y : Int32} (hn : n < 8) (h0 : ¬ y < 0) (h4 : y ≤ 4) (hm : bt (w.f 2) n = true) (hC : 1 ≤ C) (hS : 6 ≤ S) (hx : 23 ≤ w.nx) (hq : Q (.threw 1) (mw (w.mk none 6))) : Sp X 27 6 82 C S (0, [(0, .ref 0), (1, .int (nI n)), (2, .int (y))], []) (mw w) Q := by
  refine Sp.go 1 (g := (1, [(0, .ref 0), (1, .int (nI n)), (2, .int (y))], [.int (nI n)])) rfl ?_
  refine Sp.if rfl (fun u1 => absurd u1 (nI_pos (by omega))) (fun u1 => ?_)
  refine Sp.go 2 (g := (7, [(0, .ref 0), (1, .int (nI n)), (2, .int (y))], [.int 8, .int (nI n)])) rfl ?_
  refine Sp.icmp rfl (fun u2 => ?_) (fun u2 => absurd ((nI_lt' (b := 8) (by omega) (by omega)).mpr hn) u2)
  refine Sp.go 1 (g := (21, [(0, .ref 0), (1, .int (nI n)), (2, .int (y))], [.int (y)])) rfl ?_
  refine Sp.if rfl (fun u3 => absurd u3 h0) (fun u3 => ?_)
  refine Sp.go 2 (g := (26, [(0, .ref 0), (1, .int (nI n)), (2, .int (y))], [.int 4, .int (y)])) rfl ?_
  refine Sp.icmp rfl (fun u4 => ?_) (fun u4 => absurd h4 u4)
  refine Sp.go 1 (g := (40, [(0, .ref 0), (1, .int (nI n)), (2, .int (y))], [.ref 0])) rfl ?_
  refine Sp.get (v := .ref 1) rfl rfl rfl ?_
  refine Sp.go 1 (g := (44, [(0, .ref 0), (1, .int (nI n)), (2, .int (y))], [.int (nI n), .ref 1])) rfl ?_
  refine Sp.vr (some (.int (m_b2 (n_is (w.f 2) (nI n))))) (mw (w)) (k' := 2) (F' := 1) (N' := 21) (C' := 0) (S' := 0) (vs := [.int (nI n)]) (st := []) rfl rfl rfl rfl (Nat.le_of_ble_eq_true rfl) (Nat.le_of_ble_eq_true rfl) (by decide) (by decide) (Nat.zero_le _) (Nat.zero_le _) (fun Q' h => n_isNode h) ?_
  refine Sp.ifb rfl (fun u5 => absurd u5 (by rw [n_is_nI hn, hm]; decide)) (fun u5 => ?_)
  refine Sp.th rfl (by decide) (Nat.le_of_ble_eq_true rfl) hC hS rfl hx ?_
  exact hq
theorem r_node_b3 {X : mX} {C S : Nat} {Q : Outcome → mM → Prop} {w : mWd} {n : Nat} {y : Int32} (hn : n < 8) (h0 : ¬ y < 0) (h4 : y ≤ 4) (hm : bt (w.f 2) n = false) (hk : (0 : Int32) < w.f 1) (hC : 1 ≤ C) (hS : 6 ≤ S) (hx : 23 ≤ w.nx) (hq : Q (.threw 1) (mw (w.mk none 6))) : Sp X 27 6 82 C S (0, [(0, .ref 0), (1, .int (nI n)), (2, .int (y))], []) (mw w) Q := by
  refine Sp.go 1 (g := (1, [(0, .ref 0), (1, .int (nI n)), (2, .int (y))], [.int (nI n)])) rfl ?_
  refine Sp.if rfl (fun u1 => absurd u1 (nI_pos (by omega))) (fun u1 => ?_)
  refine Sp.go 2 (g := (7, [(0, .ref 0), (1, .int (nI n)), (2, .int (y))], [.int 8, .int (nI n)])) rfl ?_
  refine Sp.icmp rfl (fun u2 => ?_) (fun u2 => absurd ((nI_lt' (b := 8) (by omega) (by omega)).mpr hn) u2)
  refine Sp.go 1 (g := (21, [(0, .ref 0), (1, .int (nI n)), (2, .int (y))], [.int (y)])) rfl ?_
  refine Sp.if rfl (fun u3 => absurd u3 h0) (fun u3 => ?_)
  refine Sp.go 2 (g := (26, [(0, .ref 0), (1, .int (nI n)), (2, .int (y))], [.int 4, .int (y)])) rfl ?_
  refine Sp.icmp rfl (fun u4 => ?_) (fun u4 => absurd h4 u4)
  refine Sp.go 1 (g := (40, [(0, .ref 0), (1, .int (nI n)), (2, .int (y))], [.ref 0])) rfl ?_
  refine Sp.get (v := .ref 1) rfl rfl rfl ?_
  refine Sp.go 1 (g := (44, [(0, .ref 0), (1, .int (nI n)), (2, .int (y))], [.int (nI n), .ref 1])) rfl ?_
  refine Sp.vr (some (.int (m_b2 (n_is (w.f 2) (nI n))))) (mw (w)) (k' := 2) (F' := 1) (N' := 21) (C' := 0) (S' := 0) (vs := [.int (nI n)]) (st := []) rfl rfl rfl rfl (Nat.le_of_ble_eq_true rfl) (Nat.le_of_ble_eq_true rfl) (by decide) (by decide) (Nat.zero_le _) (Nat.zero_le _) (fun Q' h => n_isNode h) ?_
  refine Sp.ifb rfl (fun u5 => ?_) (fun u5 => absurd u5 (by rw [n_is_nI hn, hm]; decide))
  refine Sp.go 1 (g := (61, [(0, .ref 0), (1, .int (nI n)), (2, .int (y))], [.ref 0])) rfl ?_
  refine Sp.get (v := .ref 1) rfl rfl rfl ?_
  refine Sp.get (v := .int (w.f 1)) rfl rfl rfl ?_
  refine Sp.if rfl (fun u6 => absurd u6 (k2_nle hk)) (fun u6 => ?_)
  refine Sp.th rfl (by decide) (Nat.le_of_ble_eq_true rfl) hC hS rfl hx ?_
  exact hq
/-- behind node(n, y) -/
def r_nodeW (w : mWd) (n : Nat) (y : Int32) : mWd := ((w.sa 2 (upd (w.a 2) n y)).sf 2 (w.f 2 ||| ((1 : Int32) <<< (nI n &&& 31)))).sf 0 (w.f 0 + 1)
theorem r_node_ok {X : mX} {C S : Nat} {Q : Outcome → mM → Prop} {w : mWd} {n : Nat} {y : Int32} (hn : n < 8) (h0 : ¬ y < 0) (h4 : y ≤ 4) (hm : bt (w.f 2) n = false) (hk : w.f 1 ≤ 0) (hq : Q (.returned (some (.int (w.f 0 + 1)))) (mw (r_nodeW w n y))) : Sp X 27 6 82 C S (0, [(0, .ref 0), (1, .int (nI n)), (2, .int (y))], []) (mw w) Q := by
  refine Sp.go 1 (g := (1, [(0, .ref 0), (1, .int (nI n)), (2, .int (y))], [.int (nI n)])) rfl ?_
  refine Sp.if rfl (fun u1 => absurd u1 (nI_pos (by omega))) (fun u1 => ?_)
  refine Sp.go 2 (g := (7, [(0, .ref 0), (1, .int (nI n)), (2, .int (y))], [.int 8, .int (nI n)])) rfl ?_
  refine Sp.icmp rfl (fun u2 => ?_) (fun u2 => absurd ((nI_lt' (b := 8) (by omega) (by omega)).mpr hn) u2)
  refine Sp.go 1 (g := (21, [(0, .ref 0), (1, .int (nI n)), (2, .int (y))], [.int (y)])) rfl ?_
  refine Sp.if rfl (fun u3 => absurd u3 h0) (fun u3 => ?_)
  refine Sp.go 2 (g := (26, [(0, .ref 0), (1, .int (nI n)), (2, .int (y))], [.int 4, .int (y)])) rfl ?_
  refine Sp.icmp rfl (fun u4 => ?_) (fun u4 => absurd h4 u4)
  refine Sp.go 1 (g := (40, [(0, .ref 0), (1, .int (nI n)), (2, .int (y))], [.ref 0])) rfl ?_
  refine Sp.get (v := .ref 1) rfl rfl rfl ?_
  refine Sp.go 1 (g := (44, [(0, .ref 0), (1, .int (nI n)), (2, .int (y))], [.int (nI n), .ref 1])) rfl ?_
  refine Sp.vr (some (.int (m_b2 (n_is (w.f 2) (nI n))))) (mw (w)) (k' := 2) (F' := 1) (N' := 21) (C' := 0) (S' := 0) (vs := [.int (nI n)]) (st := []) rfl rfl rfl rfl (Nat.le_of_ble_eq_true rfl) (Nat.le_of_ble_eq_true rfl) (by decide) (by decide) (Nat.zero_le _) (Nat.zero_le _) (fun Q' h => n_isNode h) ?_
  refine Sp.ifb rfl (fun u5 => ?_) (fun u5 => absurd u5 (by rw [n_is_nI hn, hm]; decide))
  refine Sp.go 1 (g := (61, [(0, .ref 0), (1, .int (nI n)), (2, .int (y))], [.ref 0])) rfl ?_
  refine Sp.get (v := .ref 1) rfl rfl rfl ?_
  refine Sp.get (v := .int (w.f 1)) rfl rfl rfl ?_
  refine Sp.if rfl (fun u6 => ?_) (fun u6 => absurd hk u6)
  refine Sp.go 1 (g := (81, [(0, .ref 0), (1, .int (nI n)), (2, .int (y))], [.ref 0])) rfl ?_
  refine Sp.get (v := .ref 1) rfl rfl rfl ?_
  refine Sp.go 2 (g := (86, [(0, .ref 0), (1, .int (nI n)), (2, .int (y))], [.int (y), .int (nI n), .ref 1])) rfl ?_
  refine Sp.vr none (mw ((((w).sa 2 (upd (w.a 2) n y)).sf 2 (w.f 2 ||| ((1 : Int32) <<< (nI n &&& 31)))).sf 0 (w.f 0 + 1))) (k' := 4) (F' := 0) (N' := 0) (C' := 0) (S' := 0) (vs := [.int (nI n), .int (y)]) (st := []) rfl rfl rfl rfl (Nat.le_of_ble_eq_true rfl) (Nat.le_of_ble_eq_true rfl) (by decide) (by decide) (Nat.zero_le _) (Nat.zero_le _) (fun Q' h => n_makeNode (by omega) h) ?_
  refine Sp.go 1 (g := (90, [(0, .ref 0), (1, .int (nI n)), (2, .int (y))], [.ref 0])) rfl ?_
  refine Sp.get (v := .ref 1) rfl rfl rfl ?_
  refine Sp.get (v := .int (w.f 0 + 1)) rfl rfl rfl ?_
  refine Sp.iret rfl (Or.inl rfl) ?_
  exact hq
theorem r_contact_b0 {X : mX} {C S : Nat} {Q : Outcome → mM → Prop} {w : mWd} {x y z u : Int32} (hp : n_pair (w.f 2) x y = false) (hC : 1 ≤ C) (hS : 6 ≤ S) (hx : 23 ≤ w.nx) (hq : Q (.threw 0) (mw (w.mk none 6))) : Sp X 28 7 104 C S (0, [(0, .ref 0), (1, .int (x)), (2, .int (y)), (3, .int (z)), (4, .int (u))], []) (mw w) Q := by
  refine Sp.go 3 (g := (3, [(0, .ref 0), (1, .int (x)), (2, .int (y)), (3, .int (z)), (4, .int (u))], [.int (y), .int (x), .ref 0])) rfl ?_
  refine Sp.vt 0 (mw (w.mk none 6)) (k' := 46) (F' := 6) (N' := 82) (C' := 1) (S' := 6) (vs := [.int (x), .int (y)]) (st := []) rfl rfl rfl rfl (Nat.le_of_ble_eq_true rfl) (Nat.le_of_ble_eq_true rfl) (by decide) (by decide) hC hS (by decide) (fun Q' h => r_checkPair_bad hp (by decide) (by decide) hx h) (Or.inl ⟨rfl, ?_⟩)
  exact hq
theorem r_contact_b1 {X : mX} {C S : Nat} {Q : Outcome → mM → Prop} {w : mWd} {x y z u : Int32} (hp : n_pair (w.f 2) x y = true) (hb : z < w.f 4 ∨ u ≤ z ∨ (64 : Int32) < u) (hC : 1 ≤ C) (hS : 6 ≤ S) (hx : 23 ≤ w.nx) (hq : Q (.threw 0) (mw (w.mk none 6))) : Sp X 28 7 104 C S (0, [(0, .ref 0), (1, .int (x)), (2, .int (y)), (3, .int (z)), (4, .int (u))], []) (mw w) Q := by
  by_cases h1 : z < w.f 4
  · skip
    refine Sp.go 3 (g := (3, [(0, .ref 0), (1, .int (x)), (2, .int (y)), (3, .int (z)), (4, .int (u))], [.int (y), .int (x), .ref 0])) rfl ?_
    refine Sp.vr none (mw (w)) (k' := 46) (F' := 6) (N' := 82) (C' := 0) (S' := 0) (vs := [.int (x), .int (y)]) (st := []) rfl rfl rfl rfl (Nat.le_of_ble_eq_true rfl) (Nat.le_of_ble_eq_true rfl) (by decide) (by decide) (Nat.zero_le _) (Nat.zero_le _) (fun Q' h => r_checkPair_ok hp h) ?_
    refine Sp.go 2 (g := (8, [(0, .ref 0), (1, .int (x)), (2, .int (y)), (3, .int (z)), (4, .int (u))], [.ref 0, .int (z)])) rfl ?_
    refine Sp.get (v := .int (w.f 4)) rfl rfl rfl ?_
    refine Sp.icmp rfl (fun u21 => ?_) (fun u21 => absurd h1 u21)
    refine Sp.th rfl (by decide) (Nat.le_of_ble_eq_true rfl) hC hS rfl hx ?_
    exact hq
  by_cases h2 : u ≤ z
  · skip
    refine Sp.go 3 (g := (3, [(0, .ref 0), (1, .int (x)), (2, .int (y)), (3, .int (z)), (4, .int (u))], [.int (y), .int (x), .ref 0])) rfl ?_
    refine Sp.vr none (mw (w)) (k' := 46) (F' := 6) (N' := 82) (C' := 0) (S' := 0) (vs := [.int (x), .int (y)]) (st := []) rfl rfl rfl rfl (Nat.le_of_ble_eq_true rfl) (Nat.le_of_ble_eq_true rfl) (by decide) (by decide) (Nat.zero_le _) (Nat.zero_le _) (fun Q' h => r_checkPair_ok hp h) ?_
    refine Sp.go 2 (g := (8, [(0, .ref 0), (1, .int (x)), (2, .int (y)), (3, .int (z)), (4, .int (u))], [.ref 0, .int (z)])) rfl ?_
    refine Sp.get (v := .int (w.f 4)) rfl rfl rfl ?_
    refine Sp.icmp rfl (fun u21 => absurd u21 h1) (fun u21 => ?_)
    refine Sp.go 2 (g := (17, [(0, .ref 0), (1, .int (x)), (2, .int (y)), (3, .int (z)), (4, .int (u))], [.int (u), .int (z)])) rfl ?_
    refine Sp.icmp rfl (fun u22 => ?_) (fun u22 => absurd h2 u22)
    refine Sp.th rfl (by decide) (Nat.le_of_ble_eq_true rfl) hC hS rfl hx ?_
    exact hq
  · skip
    refine Sp.go 3 (g := (3, [(0, .ref 0), (1, .int (x)), (2, .int (y)), (3, .int (z)), (4, .int (u))], [.int (y), .int (x), .ref 0])) rfl ?_
    refine Sp.vr none (mw (w)) (k' := 46) (F' := 6) (N' := 82) (C' := 0) (S' := 0) (vs := [.int (x), .int (y)]) (st := []) rfl rfl rfl rfl (Nat.le_of_ble_eq_true rfl) (Nat.le_of_ble_eq_true rfl) (by decide) (by decide) (Nat.zero_le _) (Nat.zero_le _) (fun Q' h => r_checkPair_ok hp h) ?_
    refine Sp.go 2 (g := (8, [(0, .ref 0), (1, .int (x)), (2, .int (y)), (3, .int (z)), (4, .int (u))], [.ref 0, .int (z)])) rfl ?_
    refine Sp.get (v := .int (w.f 4)) rfl rfl rfl ?_
    refine Sp.icmp rfl (fun u21 => absurd u21 h1) (fun u21 => ?_)
    refine Sp.go 2 (g := (17, [(0, .ref 0), (1, .int (x)), (2, .int (y)), (3, .int (z)), (4, .int (u))], [.int (u), .int (z)])) rfl ?_
    refine Sp.icmp rfl (fun u22 => absurd u22 h2) (fun u22 => ?_)
    refine Sp.go 2 (g := (24, [(0, .ref 0), (1, .int (x)), (2, .int (y)), (3, .int (z)), (4, .int (u))], [.int 64, .int (u)])) rfl ?_
    refine Sp.icmp rfl (fun u23 => absurd u23 (k2_nle ((hb.resolve_left h1).resolve_left h2))) (fun u23 => ?_)
    refine Sp.th rfl (by decide) (Nat.le_of_ble_eq_true rfl) hC hS rfl hx ?_
    exact hq
theorem r_contact_b2 {X : mX} {C S : Nat} {Q : Outcome → mM → Prop} {w : mWd} {x y z u : Int32} (hp : n_pair (w.f 2) x y = true) (g1 : ¬ z < w.f 4) (g2 : ¬ u ≤ z) (g3 : u ≤ 64) (hk : (24 : Int32) ≤ w.f 1) (hC : 1 ≤ C) (hS : 6 ≤ S) (hx : 23 ≤ w.nx) (hq : Q (.threw 1) (mw (w.mk none 6))) : Sp X 28 7 104 C S (0, [(0, .ref 0), (1, .int (x)), (2, .int (y)), (3, .int (z)), (4, .int (u))], []) (mw w) Q := by
  refine Sp.go 3 (g := (3, [(0, .ref 0), (1, .int (x)), (2, .int (y)), (3, .int (z)), (4, .int (u))], [.int (y), .int (x), .ref 0])) rfl ?_
  refine Sp.vr none (mw (w)) (k' := 46) (F' := 6) (N' := 82) (C' := 0) (S' := 0) (vs := [.int (x), .int (y)]) (st := []) rfl rfl rfl rfl (Nat.le_of_ble_eq_true rfl) (Nat.le_of_ble_eq_true rfl) (by decide) (by decide) (Nat.zero_le _) (Nat.zero_le _) (fun Q' h => r_checkPair_ok hp h) ?_
  refine Sp.go 2 (g := (8, [(0, .ref 0), (1, .int (x)), (2, .int (y)), (3, .int (z)), (4, .int (u))], [.ref 0, .int (z)])) rfl ?_
  refine Sp.get (v := .int (w.f 4)) rfl rfl rfl ?_
  refine Sp.icmp rfl (fun u1 => absurd u1 g1) (fun u1 => ?_)
  refine Sp.go 2 (g := (17, [(0, .ref 0), (1, .int (x)), (2, .int (y)), (3, .int (z)), (4, .int (u))], [.int (u), .int (z)])) rfl ?_
  refine Sp.icmp rfl (fun u2 => absurd u2 g2) (fun u2 => ?_)
  refine Sp.go 2 (g := (24, [(0, .ref 0), (1, .int (x)), (2, .int (y)), (3, .int (z)), (4, .int (u))], [.int 64, .int (u)])) rfl ?_
  refine Sp.icmp rfl (fun u3 => ?_) (fun u3 => absurd g3 u3)
  refine Sp.go 1 (g := (38, [(0, .ref 0), (1, .int (x)), (2, .int (y)), (3, .int (z)), (4, .int (u))], [.ref 0])) rfl ?_
  refine Sp.get (v := .ref 1) rfl rfl rfl ?_
  refine Sp.get (v := .int (w.f 1)) rfl rfl rfl ?_
  refine Sp.go 1 (g := (46, [(0, .ref 0), (1, .int (x)), (2, .int (y)), (3, .int (z)), (4, .int (u))], [.int 24, .int (w.f 1)])) rfl ?_
  refine Sp.icmp rfl (fun u4 => absurd u4 (k2_nlt hk)) (fun u4 => ?_)
  refine Sp.th rfl (by decide) (Nat.le_of_ble_eq_true rfl) hC hS rfl hx ?_
  exact hq
theorem r_contact_b3 {X : mX} {C S : Nat} {Q : Outcome → mM → Prop} {w : mWd} {a b s e : Nat} (ha : a < 8) (hb : b < 8) (hse : s < e) (he : e ≤ 64) (hp : n_pair (w.f 2) (nI a) (nI b) = true) (g1 : ¬ nI s < w.f 4) (hk : w.f 1 < 24) (ho : m_any (fun t => bt (w.a 3 (t * 8 + a)) b) s (e - s) = true) (hC : 1 ≤ C) (hS : 6 ≤ S) (hx : 23 ≤ w.nx) (hq : Q (.threw 1) (mw (w.mk none 6))) : Sp X 28 7 104 C S (0, [(0, .ref 0), (1, .int (nI a)), (2, .int (nI b)), (3, .int (nI s)), (4, .int (nI e))], []) (mw w) Q := by
  refine Sp.go 3 (g := (3, [(0, .ref 0), (1, .int (nI a)), (2, .int (nI b)), (3, .int (nI s)), (4, .int (nI e))], [.int (nI b), .int (nI a), .ref 0])) rfl ?_
  refine Sp.vr none (mw (w)) (k' := 46) (F' := 6) (N' := 82) (C' := 0) (S' := 0) (vs := [.int (nI a), .int (nI b)]) (st := []) rfl rfl rfl rfl (Nat.le_of_ble_eq_true rfl) (Nat.le_of_ble_eq_true rfl) (by decide) (by decide) (Nat.zero_le _) (Nat.zero_le _) (fun Q' h => r_checkPair_ok hp h) ?_
  refine Sp.go 2 (g := (8, [(0, .ref 0), (1, .int (nI a)), (2, .int (nI b)), (3, .int (nI s)), (4, .int (nI e))], [.ref 0, .int (nI s)])) rfl ?_
  refine Sp.get (v := .int (w.f 4)) rfl rfl rfl ?_
  refine Sp.icmp rfl (fun u1 => absurd u1 g1) (fun u1 => ?_)
  refine Sp.go 2 (g := (17, [(0, .ref 0), (1, .int (nI a)), (2, .int (nI b)), (3, .int (nI s)), (4, .int (nI e))], [.int (nI e), .int (nI s)])) rfl ?_
  refine Sp.icmp rfl (fun u2 => absurd u2 (fun q => absurd ((nI_le' (by omega) (by omega)).mp q) (by omega))) (fun u2 => ?_)
  refine Sp.go 2 (g := (24, [(0, .ref 0), (1, .int (nI a)), (2, .int (nI b)), (3, .int (nI s)), (4, .int (nI e))], [.int 64, .int (nI e)])) rfl ?_
  refine Sp.icmp rfl (fun u3 => ?_) (fun u3 => absurd ((nI_le' (b := 64) (by omega) (by omega)).mpr he) u3)
  refine Sp.go 1 (g := (38, [(0, .ref 0), (1, .int (nI a)), (2, .int (nI b)), (3, .int (nI s)), (4, .int (nI e))], [.ref 0])) rfl ?_
  refine Sp.get (v := .ref 1) rfl rfl rfl ?_
  refine Sp.get (v := .int (w.f 1)) rfl rfl rfl ?_
  refine Sp.go 1 (g := (46, [(0, .ref 0), (1, .int (nI a)), (2, .int (nI b)), (3, .int (nI s)), (4, .int (nI e))], [.int 24, .int (w.f 1)])) rfl ?_
  refine Sp.icmp rfl (fun u4 => ?_) (fun u4 => absurd hk u4)
  refine Sp.go 1 (g := (60, [(0, .ref 0), (1, .int (nI a)), (2, .int (nI b)), (3, .int (nI s)), (4, .int (nI e))], [.ref 0])) rfl ?_
  refine Sp.get (v := .ref 1) rfl rfl rfl ?_
  refine Sp.go 4 (g := (68, [(0, .ref 0), (1, .int (nI a)), (2, .int (nI b)), (3, .int (nI s)), (4, .int (nI e))], [.int (nI e), .int (nI s), .int (nI b), .int (nI a), .ref 1])) rfl ?_
  refine Sp.vr (some (.int (m_b2 (m_any (fun t => bt (w.a 3 (t * 8 + a)) b) s (e - s))))) (mw (w)) (k' := 5) (F' := 1) (N' := 21) (C' := 0) (S' := 0) (vs := [.int (nI a), .int (nI b), .int (nI s), .int (nI e)]) (st := []) rfl rfl rfl rfl (Nat.le_of_ble_eq_true rfl) (Nat.le_of_ble_eq_true rfl) (by decide) (by decide) (Nat.zero_le _) (Nat.zero_le _) (fun Q' h => n_isOpenWithin (by omega) (by omega) (by omega) (by omega) h) ?_
  refine Sp.ifb rfl (fun u5 => absurd u5 (by rw [ho]; decide)) (fun u5 => ?_)
  refine Sp.th rfl (by decide) (Nat.le_of_ble_eq_true rfl) hC hS rfl hx ?_
  exact hq
theorem r_contact_ok {X : mX} {C S : Nat} {Q : Outcome → mM → Prop} {w : mWd} {a b s e : Nat} (ha : a < 8) (hb : b < 8) (hse : s < e) (he : e ≤ 64) (hp : n_pair (w.f 2) (nI a) (nI b) = true) (g1 : ¬ nI s < w.f 4) (hk : w.f 1 < 24) (ho : m_any (fun t => bt (w.a 3 (t * 8 + a)) b) s (e - s) = false) (hq : Q (.returned (some (.int (w.f 1 + 1)))) (mw ((w.sa 3 (n_mk a b s (e - s) (w.a 3))).sf 1 (w.f 1 + 1)))) : Sp X 28 7 104 C S (0, [(0, .ref 0), (1, .int (nI a)), (2, .int (nI b)), (3, .int (nI s)), (4, .int (nI e))], []) (mw w) Q := by
  refine Sp.go 3 (g := (3, [(0, .ref 0), (1, .int (nI a)), (2, .int (nI b)), (3, .int (nI s)), (4, .int (nI e))], [.int (nI b), .int (nI a), .ref 0])) rfl ?_
  refine Sp.vr none (mw (w)) (k' := 46) (F' := 6) (N' := 82) (C' := 0) (S' := 0) (vs := [.int (nI a), .int (nI b)]) (st := []) rfl rfl rfl rfl (Nat.le_of_ble_eq_true rfl) (Nat.le_of_ble_eq_true rfl) (by decide) (by decide) (Nat.zero_le _) (Nat.zero_le _) (fun Q' h => r_checkPair_ok hp h) ?_
  refine Sp.go 2 (g := (8, [(0, .ref 0), (1, .int (nI a)), (2, .int (nI b)), (3, .int (nI s)), (4, .int (nI e))], [.ref 0, .int (nI s)])) rfl ?_
  refine Sp.get (v := .int (w.f 4)) rfl rfl rfl ?_
  refine Sp.icmp rfl (fun u1 => absurd u1 g1) (fun u1 => ?_)
  refine Sp.go 2 (g := (17, [(0, .ref 0), (1, .int (nI a)), (2, .int (nI b)), (3, .int (nI s)), (4, .int (nI e))], [.int (nI e), .int (nI s)])) rfl ?_
  refine Sp.icmp rfl (fun u2 => absurd u2 (fun q => absurd ((nI_le' (by omega) (by omega)).mp q) (by omega))) (fun u2 => ?_)
  refine Sp.go 2 (g := (24, [(0, .ref 0), (1, .int (nI a)), (2, .int (nI b)), (3, .int (nI s)), (4, .int (nI e))], [.int 64, .int (nI e)])) rfl ?_
  refine Sp.icmp rfl (fun u3 => ?_) (fun u3 => absurd ((nI_le' (b := 64) (by omega) (by omega)).mpr he) u3)
  refine Sp.go 1 (g := (38, [(0, .ref 0), (1, .int (nI a)), (2, .int (nI b)), (3, .int (nI s)), (4, .int (nI e))], [.ref 0])) rfl ?_
  refine Sp.get (v := .ref 1) rfl rfl rfl ?_
  refine Sp.get (v := .int (w.f 1)) rfl rfl rfl ?_
  refine Sp.go 1 (g := (46, [(0, .ref 0), (1, .int (nI a)), (2, .int (nI b)), (3, .int (nI s)), (4, .int (nI e))], [.int 24, .int (w.f 1)])) rfl ?_
  refine Sp.icmp rfl (fun u4 => ?_) (fun u4 => absurd hk u4)
  refine Sp.go 1 (g := (60, [(0, .ref 0), (1, .int (nI a)), (2, .int (nI b)), (3, .int (nI s)), (4, .int (nI e))], [.ref 0])) rfl ?_
  refine Sp.get (v := .ref 1) rfl rfl rfl ?_
  refine Sp.go 4 (g := (68, [(0, .ref 0), (1, .int (nI a)), (2, .int (nI b)), (3, .int (nI s)), (4, .int (nI e))], [.int (nI e), .int (nI s), .int (nI b), .int (nI a), .ref 1])) rfl ?_
  refine Sp.vr (some (.int (m_b2 (m_any (fun t => bt (w.a 3 (t * 8 + a)) b) s (e - s))))) (mw (w)) (k' := 5) (F' := 1) (N' := 21) (C' := 0) (S' := 0) (vs := [.int (nI a), .int (nI b), .int (nI s), .int (nI e)]) (st := []) rfl rfl rfl rfl (Nat.le_of_ble_eq_true rfl) (Nat.le_of_ble_eq_true rfl) (by decide) (by decide) (Nat.zero_le _) (Nat.zero_le _) (fun Q' h => n_isOpenWithin (by omega) (by omega) (by omega) (by omega) h) ?_
  refine Sp.ifb rfl (fun u5 => ?_) (fun u5 => absurd u5 (by rw [ho]; decide))
  refine Sp.go 1 (g := (85, [(0, .ref 0), (1, .int (nI a)), (2, .int (nI b)), (3, .int (nI s)), (4, .int (nI e))], [.ref 0])) rfl ?_
  refine Sp.get (v := .ref 1) rfl rfl rfl ?_
  refine Sp.go 4 (g := (93, [(0, .ref 0), (1, .int (nI a)), (2, .int (nI b)), (3, .int (nI s)), (4, .int (nI e))], [.int (nI e), .int (nI s), .int (nI b), .int (nI a), .ref 1])) rfl ?_
  refine Sp.vr none (mw (((w).sa 3 (n_mk a b s (e - s) (w.a 3))).sf 1 (w.f 1 + 1))) (k' := 6) (F' := 1) (N' := 21) (C' := 0) (S' := 0) (vs := [.int (nI a), .int (nI b), .int (nI s), .int (nI e)]) (st := []) rfl rfl rfl rfl (Nat.le_of_ble_eq_true rfl) (Nat.le_of_ble_eq_true rfl) (by decide) (by decide) (Nat.zero_le _) (Nat.zero_le _) (fun Q' h => n_makeContact (by omega) (by omega) (by omega) (by omega) h) ?_
  refine Sp.go 1 (g := (97, [(0, .ref 0), (1, .int (nI a)), (2, .int (nI b)), (3, .int (nI s)), (4, .int (nI e))], [.ref 0])) rfl ?_
  refine Sp.get (v := .ref 1) rfl rfl rfl ?_
  refine Sp.get (v := .int (w.f 1 + 1)) rfl rfl rfl ?_
  refine Sp.iret rfl (Or.inl rfl) ?_
  exact hq
theorem r_whatIf_b0 {X : mX} {C S : Nat} {Q : Outcome → mM → Prop} {w : mWd} {x y z : Int32} (hp : n_pair (w.f 2) x y = false) (hC : 1 ≤ C) (hS : 6 ≤ S) (hx : 23 ≤ w.nx) (hq : Q (.threw 0) (mw (w.mk none 6))) : Sp X 31 8 127 C S (0, [(0, .ref 0), (1, .int (x)), (2, .int (y)), (3, .int (z))], []) (mw w) Q := by
  refine Sp.go 4 (g := (4, [(0, .ref 0), (1, .int (x)), (2, .int (y)), (3, .int (z))], [.int (z), .int (y), .int (x), .ref 0])) rfl ?_
  refine Sp.vt 0 (mw (w.mk none 6)) (k' := 47) (F' := 7) (N' := 104) (C' := 1) (S' := 6) (vs := [.int (x), .int (y), .int (z)]) (st := []) rfl rfl rfl rfl (Nat.le_of_ble_eq_true rfl) (Nat.le_of_ble_eq_true rfl) (by decide) (by decide) hC hS (by decide) (fun Q' h => r_checkBooking_b0 hp (by decide) (by decide) hx h) (Or.inl ⟨rfl, ?_⟩)
  exact hq
theorem r_book_b0 {X : mX} {C S : Nat} {Q : Outcome → mM → Prop} {w : mWd} {x y z : Int32} (hp : n_pair (w.f 2) x y = false) (hC : 1 ≤ C) (hS : 6 ≤ S) (hx : 23 ≤ w.nx) (hq : Q (.threw 0) (mw (w.mk none 6))) : Sp X 30 8 127 C S (0, [(0, .ref 0), (1, .int (x)), (2, .int (y)), (3, .int (z))], []) (mw w) Q := by
  refine Sp.go 4 (g := (4, [(0, .ref 0), (1, .int (x)), (2, .int (y)), (3, .int (z))], [.int (z), .int (y), .int (x), .ref 0])) rfl ?_
  refine Sp.vt 0 (mw (w.mk none 6)) (k' := 47) (F' := 7) (N' := 104) (C' := 1) (S' := 6) (vs := [.int (x), .int (y), .int (z)]) (st := []) rfl rfl rfl rfl (Nat.le_of_ble_eq_true rfl) (Nat.le_of_ble_eq_true rfl) (by decide) (by decide) hC hS (by decide) (fun Q' h => r_checkBooking_b0 hp (by decide) (by decide) hx h) (Or.inl ⟨rfl, ?_⟩)
  exact hq
theorem r_whatIf_b1 {X : mX} {C S : Nat} {Q : Outcome → mM → Prop} {w : mWd} {x y z : Int32} (hp : n_pair (w.f 2) x y = true) (hz : z < w.f 4 ∨ 64 ≤ z) (hC : 1 ≤ C) (hS : 6 ≤ S) (hx : 23 ≤ w.nx) (hq : Q (.threw 0) (mw (w.mk none 6))) : Sp X 31 8 127 C S (0, [(0, .ref 0), (1, .int (x)), (2, .int (y)), (3, .int (z))], []) (mw w) Q := by
  refine Sp.go 4 (g := (4, [(0, .ref 0), (1, .int (x)), (2, .int (y)), (3, .int (z))], [.int (z), .int (y), .int (x), .ref 0])) rfl ?_
  refine Sp.vt 0 (mw (w.mk none 6)) (k' := 47) (F' := 7) (N' := 104) (C' := 1) (S' := 6) (vs := [.int (x), .int (y), .int (z)]) (st := []) rfl rfl rfl rfl (Nat.le_of_ble_eq_true rfl) (Nat.le_of_ble_eq_true rfl) (by decide) (by decide) hC hS (by decide) (fun Q' h => r_checkBooking_b1 hp hz (by decide) (by decide) hx h) (Or.inl ⟨rfl, ?_⟩)
  exact hq
theorem r_book_b1 {X : mX} {C S : Nat} {Q : Outcome → mM → Prop} {w : mWd} {x y z : Int32} (hp : n_pair (w.f 2) x y = true) (hz : z < w.f 4 ∨ 64 ≤ z) (hC : 1 ≤ C) (hS : 6 ≤ S) (hx : 23 ≤ w.nx) (hq : Q (.threw 0) (mw (w.mk none 6))) : Sp X 30 8 127 C S (0, [(0, .ref 0), (1, .int (x)), (2, .int (y)), (3, .int (z))], []) (mw w) Q := by
  refine Sp.go 4 (g := (4, [(0, .ref 0), (1, .int (x)), (2, .int (y)), (3, .int (z))], [.int (z), .int (y), .int (x), .ref 0])) rfl ?_
  refine Sp.vt 0 (mw (w.mk none 6)) (k' := 47) (F' := 7) (N' := 104) (C' := 1) (S' := 6) (vs := [.int (x), .int (y), .int (z)]) (st := []) rfl rfl rfl rfl (Nat.le_of_ble_eq_true rfl) (Nat.le_of_ble_eq_true rfl) (by decide) (by decide) hC hS (by decide) (fun Q' h => r_checkBooking_b1 hp hz (by decide) (by decide) hx h) (Or.inl ⟨rfl, ?_⟩)
  exact hq
theorem r_whatIf_b2 {X : mX} {C S : Nat} {Q : Outcome → mM → Prop} {w : mWd} {x y z : Int32} (hp : n_pair (w.f 2) x y = true) (hn : ¬ z < w.f 4) (h64 : z < 64) (hg : (32 : Int32) ≤ w.f 3) (hC : 1 ≤ C) (hS : 6 ≤ S) (hx : 23 ≤ w.nx) (hq : Q (.threw 1) (mw (w.mk none 6))) : Sp X 31 8 127 C S (0, [(0, .ref 0), (1, .int (x)), (2, .int (y)), (3, .int (z))], []) (mw w) Q := by
  refine Sp.go 4 (g := (4, [(0, .ref 0), (1, .int (x)), (2, .int (y)), (3, .int (z))], [.int (z), .int (y), .int (x), .ref 0])) rfl ?_
  refine Sp.vt 1 (mw (w.mk none 6)) (k' := 47) (F' := 7) (N' := 104) (C' := 1) (S' := 6) (vs := [.int (x), .int (y), .int (z)]) (st := []) rfl rfl rfl rfl (Nat.le_of_ble_eq_true rfl) (Nat.le_of_ble_eq_true rfl) (by decide) (by decide) hC hS (by decide) (fun Q' h => r_checkBooking_b2 hp hn h64 hg (by decide) (by decide) hx h) (Or.inl ⟨rfl, ?_⟩)
  exact hq
theorem r_book_b2 {X : mX} {C S : Nat} {Q : Outcome → mM → Prop} {w : mWd} {x y z : Int32} (hp : n_pair (w.f 2) x y = true) (hn : ¬ z < w.f 4) (h64 : z < 64) (hg : (32 : Int32) ≤ w.f 3) (hC : 1 ≤ C) (hS : 6 ≤ S) (hx : 23 ≤ w.nx) (hq : Q (.threw 1) (mw (w.mk none 6))) : Sp X 30 8 127 C S (0, [(0, .ref 0), (1, .int (x)), (2, .int (y)), (3, .int (z))], []) (mw w) Q := by
  refine Sp.go 4 (g := (4, [(0, .ref 0), (1, .int (x)), (2, .int (y)), (3, .int (z))], [.int (z), .int (y), .int (x), .ref 0])) rfl ?_
  refine Sp.vt 1 (mw (w.mk none 6)) (k' := 47) (F' := 7) (N' := 104) (C' := 1) (S' := 6) (vs := [.int (x), .int (y), .int (z)]) (st := []) rfl rfl rfl rfl (Nat.le_of_ble_eq_true rfl) (Nat.le_of_ble_eq_true rfl) (by decide) (by decide) hC hS (by decide) (fun Q' h => r_checkBooking_b2 hp hn h64 hg (by decide) (by decide) hx h) (Or.inl ⟨rfl, ?_⟩)
  exact hq
theorem r_whatIf_none {X : mX} {C S : Nat} {Q : Outcome → mM → Prop} {w : mWd} {a g s : Nat} (ha : a < 8) (hgl : g < 8) (hs : s < 64) (hp : n_pair (w.f 2) (nI a) (nI g) = true) (hn : ¬ nI s < w.f 4) (h64 : nI s < 64) (hg : w.f 3 < 32) (ho : w_end w a s g = none) (hq : Q (.returned (some (.int (-1)))) (mw w)) : Sp X 31 8 127 C S (0, [(0, .ref 0), (1, .int (nI a)), (2, .int (nI g)), (3, .int (nI s))], []) (mw w) Q := by
  refine Sp.go 4 (g := (4, [(0, .ref 0), (1, .int (nI a)), (2, .int (nI g)), (3, .int (nI s))], [.int (nI s), .int (nI g), .int (nI a), .ref 0])) rfl ?_
  refine Sp.vr none (mw (w)) (k' := 47) (F' := 7) (N' := 104) (C' := 0) (S' := 0) (vs := [.int (nI a), .int (nI g), .int (nI s)]) (st := []) rfl rfl rfl rfl (Nat.le_of_ble_eq_true rfl) (Nat.le_of_ble_eq_true rfl) (by decide) (by decide) (Nat.zero_le _) (Nat.zero_le _) (fun Q' h => r_checkBooking_ok hp hn h64 hg h) ?_
  refine Sp.go 1 (g := (8, [(0, .ref 0), (1, .int (nI a)), (2, .int (nI g)), (3, .int (nI s))], [.ref 0])) rfl ?_
  refine Sp.get (v := .ref 6) rfl rfl rfl ?_
  refine Sp.go 1 (g := (12, [(0, .ref 0), (1, .int (nI a)), (2, .int (nI g)), (3, .int (nI s))], [.ref 0, .ref 6])) rfl ?_
  refine Sp.get (v := .ref 1) rfl rfl rfl ?_
  refine Sp.go 3 (g := (18, [(0, .ref 0), (1, .int (nI a)), (2, .int (nI g)), (3, .int (nI s))], [.int (nI g), .int (nI s), .int (nI a), .ref 1, .ref 6])) rfl ?_
  refine Sp.vr (some (.int (-1))) (mw (w)) (k' := 20) (F' := 4) (N' := 94) (C' := 0) (S' := 0) (vs := [.ref 1, .int (nI a), .int (nI s), .int (nI g)]) (st := []) rfl rfl rfl rfl (Nat.le_of_ble_eq_true rfl) (Nat.le_of_ble_eq_true rfl) (by decide) (by decide) (Nat.zero_le _) (Nat.zero_le _) (fun Q' h => f_seek_none (by omega) (by omega) ho h) ?_
  refine Sp.iret rfl (Or.inl rfl) ?_
  exact hq
theorem r_whatIf_some {X : mX} {C S : Nat} {Q : Outcome → mM → Prop} {w : mWd} {a g s : Nat} (ha : a < 8) (hgl : g < 8) (hs : s < 64) (hp : n_pair (w.f 2) (nI a) (nI g) = true) (hn : ¬ nI s < w.f 4) (h64 : nI s < 64) (hg : w.f 3 < 32) {e : Nat} (ho : w_end w a s g = some e) (hq : Q (.returned (some (.int (nI e)))) (mw (w_sought w a s e g))) : Sp X 31 8 127 C S (0, [(0, .ref 0), (1, .int (nI a)), (2, .int (nI g)), (3, .int (nI s))], []) (mw w) Q := by
  refine Sp.go 4 (g := (4, [(0, .ref 0), (1, .int (nI a)), (2, .int (nI g)), (3, .int (nI s))], [.int (nI s), .int (nI g), .int (nI a), .ref 0])) rfl ?_
  refine Sp.vr none (mw (w)) (k' := 47) (F' := 7) (N' := 104) (C' := 0) (S' := 0) (vs := [.int (nI a), .int (nI g), .int (nI s)]) (st := []) rfl rfl rfl rfl (Nat.le_of_ble_eq_true rfl) (Nat.le_of_ble_eq_true rfl) (by decide) (by decide) (Nat.zero_le _) (Nat.zero_le _) (fun Q' h => r_checkBooking_ok hp hn h64 hg h) ?_
  refine Sp.go 1 (g := (8, [(0, .ref 0), (1, .int (nI a)), (2, .int (nI g)), (3, .int (nI s))], [.ref 0])) rfl ?_
  refine Sp.get (v := .ref 6) rfl rfl rfl ?_
  refine Sp.go 1 (g := (12, [(0, .ref 0), (1, .int (nI a)), (2, .int (nI g)), (3, .int (nI s))], [.ref 0, .ref 6])) rfl ?_
  refine Sp.get (v := .ref 1) rfl rfl rfl ?_
  refine Sp.go 3 (g := (18, [(0, .ref 0), (1, .int (nI a)), (2, .int (nI g)), (3, .int (nI s))], [.int (nI g), .int (nI s), .int (nI a), .ref 1, .ref 6])) rfl ?_
  refine Sp.vr (some (.int (nI e))) (mw (w_sought w a s e g)) (k' := 20) (F' := 4) (N' := 94) (C' := 0) (S' := 0) (vs := [.ref 1, .int (nI a), .int (nI s), .int (nI g)]) (st := []) rfl rfl rfl rfl (Nat.le_of_ble_eq_true rfl) (Nat.le_of_ble_eq_true rfl) (by decide) (by decide) (Nat.zero_le _) (Nat.zero_le _) (fun Q' h => f_seek_some (by omega) (by omega) (by omega) ho h) ?_
  refine Sp.iret rfl (Or.inl rfl) ?_
  exact hq
theorem r_book_none {X : mX} {C S : Nat} {Q : Outcome → mM → Prop} {w : mWd} {a g s : Nat} (ha : a < 8) (hgl : g < 8) (hs : s < 64) (hp : n_pair (w.f 2) (nI a) (nI g) = true) (hn : ¬ nI s < w.f 4) (h64 : nI s < 64) (hg : w.f 3 < 32) (ho : w_end w a s g = none) (hq : Q (.returned (some (.int (-1)))) (mw w)) : Sp X 30 8 127 C S (0, [(0, .ref 0), (1, .int (nI a)), (2, .int (nI g)), (3, .int (nI s))], []) (mw w) Q := by
  refine Sp.go 4 (g := (4, [(0, .ref 0), (1, .int (nI a)), (2, .int (nI g)), (3, .int (nI s))], [.int (nI s), .int (nI g), .int (nI a), .ref 0])) rfl ?_
  refine Sp.vr none (mw (w)) (k' := 47) (F' := 7) (N' := 104) (C' := 0) (S' := 0) (vs := [.int (nI a), .int (nI g), .int (nI s)]) (st := []) rfl rfl rfl rfl (Nat.le_of_ble_eq_true rfl) (Nat.le_of_ble_eq_true rfl) (by decide) (by decide) (Nat.zero_le _) (Nat.zero_le _) (fun Q' h => r_checkBooking_ok hp hn h64 hg h) ?_
  refine Sp.go 1 (g := (8, [(0, .ref 0), (1, .int (nI a)), (2, .int (nI g)), (3, .int (nI s))], [.ref 0])) rfl ?_
  refine Sp.get (v := .ref 6) rfl rfl rfl ?_
  refine Sp.go 1 (g := (12, [(0, .ref 0), (1, .int (nI a)), (2, .int (nI g)), (3, .int (nI s))], [.ref 0, .ref 6])) rfl ?_
  refine Sp.get (v := .ref 1) rfl rfl rfl ?_
  refine Sp.go 3 (g := (18, [(0, .ref 0), (1, .int (nI a)), (2, .int (nI g)), (3, .int (nI s))], [.int (nI g), .int (nI s), .int (nI a), .ref 1, .ref 6])) rfl ?_
  refine Sp.vr (some (.int (-1))) (mw (w)) (k' := 20) (F' := 4) (N' := 94) (C' := 0) (S' := 0) (vs := [.ref 1, .int (nI a), .int (nI s), .int (nI g)]) (st := []) rfl rfl rfl rfl (Nat.le_of_ble_eq_true rfl) (Nat.le_of_ble_eq_true rfl) (by decide) (by decide) (Nat.zero_le _) (Nat.zero_le _) (fun Q' h => f_seek_none (by omega) (by omega) ho h) ?_
  refine Sp.go 3 (g := (26, [(4, .int (-1)), (0, .ref 0), (1, .int (nI a)), (2, .int (nI g)), (3, .int (nI s))], [.int (-1), .int (-1)])) rfl ?_
  refine Sp.icmp rfl (fun u1 => absurd u1 (fun q => q rfl)) (fun u1 => ?_)
  refine Sp.go 1 (g := (30, [(4, .int (-1)), (0, .ref 0), (1, .int (nI a)), (2, .int (nI g)), (3, .int (nI s))], [.int (-1)])) rfl ?_
  refine Sp.iret rfl (Or.inl rfl) ?_
  exact hq
end
section
/-! The desk: journeys given and cut off, booking anew, ticks. Rows laid by wip/gen/desk3.py. -/
theorem mWd.sd_d (w : mWd) (m : Nat) (x : va_E) : (w.sd m x).d m = some x := by simp [mWd.sd, mWd.d, va_up]
theorem mWd.sd_ne (w : mWd) {m n : Nat} (x : va_E) (h : n ≠ m) : (w.sd m x).d n = w.d n := by simp [mWd.sd, mWd.d, va_up, h]
theorem mWd.sd_sd (w : mWd) (m : Nat) (x y : va_E) : (w.sd m x).sd m y = w.sd m y := by
  unfold mWd.sd
  have : va_up (va_up w.2.2.2.2.1 m (some x)) m (some y) = va_up w.2.2.2.2.1 m (some y) := by
    funext j
    by_cases h : j = m <;> simp [va_up, h]
  rw [this]
theorem mWd.sd_self (w : mWd) {m : Nat} {x : va_E} (h : w.d m = some x) : w.sd m x = w := by
  unfold mWd.sd
  have : va_up w.2.2.2.2.1 m (some x) = w.2.2.2.2.1 := by
    funext j
    by_cases e : j = m
    · subst e; simp only [va_up, if_true]; exact h.symm
    · simp [va_up, e]
  rw [this]
theorem mWd.sa_45 (w : mWd) (A B A' B' : Nat → Int32) : ((((w.sa 4 A).sa 5 B).sa 4 A').sa 5 B') = (w.sa 4 A').sa 5 B' := by
  unfold mWd.sa
  have : va_up (va_up (va_up (va_up w.2.1 4 A) 5 B) 4 A') 5 B' = va_up (va_up w.2.1 4 A') 5 B' := by
    funext j
    by_cases h5 : j = 5
    · simp [va_up, h5]
    · by_cases h4 : j = 4 <;> simp [va_up, h4, h5]
  rw [this]
/-- a row's places t .. t + d - 1 out of another row -/
def r_copy (way : Nat → Int32) : Nat → Nat → (Nat → Int32) → Nat → Int32
  | _, 0, nd => nd
  | t, d + 1, nd => r_copy way (t + 1) d (upd nd t (way t))
def r_tk4 (N : Nat → Nat) : Nat → Nat → (Nat → Int32) → Nat → Int32
  | _, 0, us => us
  | t, d + 1, us => r_tk4 N (t + 1) d (n_tk4 us (N t) (N (t + 1)) t)
def r_tk5 (N : Nat → Nat) : Nat → Nat → (Nat → Int32) → Nat → Int32
  | _, 0, st => st
  | t, d + 1, st => r_tk5 N (t + 1) d (n_tk5 st (N t) (N (t + 1)) t)
def r_gb4 (N : Nat → Nat) : Nat → Nat → (Nat → Int32) → Nat → Int32
  | _, 0, us => us
  | t, d + 1, us => r_gb4 N (t + 1) d (n_gb4 us (N t) (N (t + 1)) t)
def r_gb5 (N : Nat → Nat) : Nat → Nat → (Nat → Int32) → Nat → Int32
  | _, 0, st => st
  | t, d + 1, st => r_gb5 N (t + 1) d (n_gb5 st (N t) (N (t + 1)) t)
theorem r_copy_loop {X : mX} {C S : Nat} {Q : Outcome → mM → Prop} {n e : Nat} {g at0 l f v2 : Int32} (he : e ≤ 64) : ∀ (d t : Nat) (w : mWd) (nd : Nat → Int32), t + d = e + 1 → w.d n = some (.inr (1, [.int g, .int (at0), .ref (n + 24), .int (l), .int f])) → w.d (n + 1) = some (.inl (0, 65, .inl nd)) → Sp X 48 2 44 C S (32, [(4, .int (nI (e + 1))), (0, .ref 0), (1, .ref (n + 23)), (2, .int (v2)), (3, .int (nI e))], []) (mw (w.sd (n + 1) (.inl (0, 65, .inl (r_copy (w.a 7) t d nd))))) Q → Sp X 48 2 44 C S (3, [(4, .int (nI t)), (0, .ref 0), (1, .ref (n + 23)), (2, .int (v2)), (3, .int (nI e))], []) (mw w) Q := by
  intro d
  induction d with
  | zero =>
    intro t w nd ht hp hn kk
    have e1 : t = e + 1 := by omega
    subst e1
    simp only [r_copy] at kk
    rw [mWd.sd_self w hn] at kk
    refine Sp.go 2 (g := (6, [(4, .int (nI (e + 1))), (0, .ref 0), (1, .ref (n + 23)), (2, .int (v2)), (3, .int (nI e))], [.int (nI e), .int (nI (e + 1))])) rfl ?_
    refine Sp.icmp rfl (fun u1 => ?_) (fun u1 => absurd ((nI_lt' (by omega) (by omega)).mpr (by omega)) u1)
    exact kk
  | succ d ih =>
    intro t w nd ht hp hn kk
    refine Sp.go 2 (g := (6, [(4, .int (nI t)), (0, .ref 0), (1, .ref (n + 23)), (2, .int (v2)), (3, .int (nI e))], [.int (nI e), .int (nI t)])) rfl ?_
    refine Sp.icmp rfl (fun u1 => absurd u1 (fun q => absurd ((nI_lt' (by omega) (by omega)).mp q) (by omega))) (fun u1 => ?_)
    refine Sp.go 1 (g := (10, [(4, .int (nI t)), (0, .ref 0), (1, .ref (n + 23)), (2, .int (v2)), (3, .int (nI e))], [.ref (n + 23)])) rfl ?_
    refine Sp.get (v := .ref (n + 24)) rfl hp rfl ?_
    refine Sp.go 2 (g := (16, [(4, .int (nI t)), (0, .ref 0), (1, .ref (n + 23)), (2, .int (v2)), (3, .int (nI e))], [.ref 0, .int (nI t), .ref (n + 24)])) rfl ?_
    refine Sp.get (v := .ref 6) rfl rfl rfl ?_
    refine Sp.get (v := .ref 7) rfl rfl rfl ?_
    refine Sp.go 1 (g := (24, [(4, .int (nI t)), (0, .ref 0), (1, .ref (n + 23)), (2, .int (v2)), (3, .int (nI e))], [.int (nI t), .ref 7, .int (nI t), .ref (n + 24)])) rfl ?_
    refine Sp.iald (f := w.a 7) (j := t) rfl rfl (m_ix_of (by simp only [nI, Int32.ofNat_add, Int32.ofNat_mul] <;> rfl) (by omega) (by omega)) ?_
    refine Sp.pn (j := t) rfl hn (m_ix_of (by simp only [nI, Int32.ofNat_add, Int32.ofNat_mul] <;> rfl) (by omega) (by omega)) ?_
    refine Sp.go 2 (g := (3, [(4, .int (nI t + 1)), (0, .ref 0), (1, .ref (n + 23)), (2, .int (v2)), (3, .int (nI e))], [])) rfl ?_
    rw [← nI_succ]
    refine ih (t + 1) _ (upd nd t (w.a 7 t)) (by omega) (by rw [mWd.sd_ne _ _ (by omega)]; exact hp) (mWd.sd_d ..) ?_
    simp only [r_copy] at kk
    rw [mWd.sd_sd]
    exact kk
theorem r_take_loop {X : mX} {C S : Nat} {Q : Outcome → mM → Prop} {n e lo : Nat} {g at0 l f v2 : Int32} {nd : Nat → Int32} {N : Nat → Nat} (he : e ≤ 64) (hN : ∀ i, lo ≤ i → i ≤ e → nd i = nI (N i) ∧ N i < 8) : ∀ (d t : Nat) (w : mWd), lo ≤ t → t + d = e → w.d n = some (.inr (1, [.int g, .int (at0), .ref (n + 24), .int (l), .int f])) → w.d (n + 1) = some (.inl (0, 65, .inl nd)) → Q (.returned none) (mw ((w.sa 4 (r_tk4 N t d (w.a 4))).sa 5 (r_tk5 N t d (w.a 5)))) → Sp X 48 2 44 C S (40, [(4, .int (nI t)), (0, .ref 0), (1, .ref (n + 23)), (2, .int (v2)), (3, .int (nI e))], []) (mw w) Q := by
  intro d
  induction d with
  | zero =>
    intro t w hlo ht hp hn hq
    simp only [r_tk4, r_tk5, mWd.sa_self] at hq
    refine Sp.go 2 (g := (43, [(4, .int (nI t)), (0, .ref 0), (1, .ref (n + 23)), (2, .int (v2)), (3, .int (nI e))], [.int (nI e), .int (nI t)])) rfl ?_
    refine Sp.icmp rfl (fun u1 => ?_) (fun u1 => absurd ((nI_le' (a := e) (b := t) (by omega) (by omega)).mpr (by omega)) u1)
    refine Sp.vret rfl rfl ?_
    exact hq
  | succ d ih =>
    intro t w hlo ht hp hn hq
    refine Sp.go 2 (g := (43, [(4, .int (nI t)), (0, .ref 0), (1, .ref (n + 23)), (2, .int (v2)), (3, .int (nI e))], [.int (nI e), .int (nI t)])) rfl ?_
    refine Sp.icmp rfl (fun u1 => absurd u1 (fun q => absurd ((nI_le' (a := e) (b := t) (by omega) (by omega)).mp q) (by omega))) (fun u1 => ?_)
    refine Sp.go 1 (g := (47, [(4, .int (nI t)), (0, .ref 0), (1, .ref (n + 23)), (2, .int (v2)), (3, .int (nI e))], [.ref 0])) rfl ?_
    refine Sp.get (v := .ref 1) rfl rfl rfl ?_
    refine Sp.go 1 (g := (51, [(4, .int (nI t)), (0, .ref 0), (1, .ref (n + 23)), (2, .int (v2)), (3, .int (nI e))], [.ref (n + 23), .ref 1])) rfl ?_
    refine Sp.get (v := .ref (n + 24)) rfl hp rfl ?_
    refine Sp.go 1 (g := (56, [(4, .int (nI t)), (0, .ref 0), (1, .ref (n + 23)), (2, .int (v2)), (3, .int (nI e))], [.int (nI t), .ref (n + 24), .ref 1])) rfl ?_
    refine Sp.iald (f := nd) (j := t) rfl hn (m_ix_of (by simp only [nI, Int32.ofNat_add, Int32.ofNat_mul] <;> rfl) (by omega) (by omega)) ?_
    rw [(hN t (by omega) (by omega)).1]
    refine Sp.go 1 (g := (58, [(4, .int (nI t)), (0, .ref 0), (1, .ref (n + 23)), (2, .int (v2)), (3, .int (nI e))], [.ref (n + 23), .int (nI (N t)), .ref 1])) rfl ?_
    refine Sp.get (v := .ref (n + 24)) rfl hp rfl ?_
    refine Sp.go 3 (g := (65, [(4, .int (nI t)), (0, .ref 0), (1, .ref (n + 23)), (2, .int (v2)), (3, .int (nI e))], [.int ((nI t) + 1), .ref (n + 24), .int (nI (N t)), .ref 1])) rfl ?_
    refine Sp.iald (f := nd) (j := t + 1) rfl hn (m_ix_of (by simp only [nI, Int32.ofNat_add, Int32.ofNat_mul] <;> rfl) (by omega) (by omega)) ?_
    rw [(hN (t + 1) (by omega) (by omega)).1]
    refine Sp.go 1 (g := (68, [(4, .int (nI t)), (0, .ref 0), (1, .ref (n + 23)), (2, .int (v2)), (3, .int (nI e))], [.int (nI t), .int (nI (N (t + 1))), .int (nI (N t)), .ref 1])) rfl ?_
    refine Sp.vr none (mw ((w.sa 4 (n_tk4 (w.a 4) (N t) (N (t + 1)) t)).sa 5 (n_tk5 (w.a 5) (N t) (N (t + 1)) t))) (k' := 12) (F' := 1) (N' := 21) (C' := 0) (S' := 0) (vs := [.int (nI (N t)), .int (nI (N (t + 1))), .int (nI t)]) (st := []) rfl rfl rfl rfl (Nat.le_of_ble_eq_true rfl) (Nat.le_of_ble_eq_true rfl) (by decide) (by decide) (Nat.zero_le _) (Nat.zero_le _) (fun Q' h => n_take (hN t (by omega) (by omega)).2 (hN (t + 1) (by omega) (by omega)).2 (by omega) h) ?_
    refine Sp.go 2 (g := (40, [(4, .int (nI t + 1)), (0, .ref 0), (1, .ref (n + 23)), (2, .int (v2)), (3, .int (nI e))], [])) rfl ?_
    rw [← nI_succ]
    refine ih (t + 1) ((w.sa 4 (n_tk4 (w.a 4) (N t) (N (t + 1)) t)).sa 5 (n_tk5 (w.a 5) (N t) (N (t + 1)) t)) (by omega) (by omega) hp hn ?_
    rw [mWd.sa_45]
    exact hq
/-- behind giveJourney: the nodes s .. e out of the way, last e, the steps taken -/
def r_giveW (w : mWd) (n s e : Nat) (g t f : Int32) (nd : Nat → Int32) (N : Nat → Nat) : mWd :=
  (((w.sd (n + 1) (.inl (0, 65, .inl (r_copy (w.a 7) s (e + 1 - s) nd)))).sd n (.inr (1, [.int g, .int t, .ref (n + 24), .int (nI e), .int f]))).sa 4 (r_tk4 N s (e - s) (w.a 4))).sa 5 (r_tk5 N s (e - s) (w.a 5))
theorem r_copy_at (way : Nat → Int32) : ∀ (d t : Nat) (nd : Nat → Int32) (i : Nat), r_copy way t d nd i = if t ≤ i ∧ i < t + d then way i else nd i := by
  intro d
  induction d with
  | zero => intro t nd i; rw [if_neg (by omega)]; rfl
  | succ d ih =>
    intro t nd i
    simp only [r_copy]
    rw [ih]
    by_cases e : i = t
    · subst e
      rw [if_neg (by omega), if_pos (by omega)]
      simp [upd]
    · by_cases h : t + 1 ≤ i ∧ i < t + 1 + d
      · rw [if_pos h, if_pos (by omega)]
      · rw [if_neg h, if_neg (by omega)]
        simp [upd, e]
theorem r_give {X : mX} {C S : Nat} {Q : Outcome → mM → Prop} {w : mWd} {n s e : Nat} {g at0 l f : Int32} {nd : Nat → Int32} {N : Nat → Nat} (hse : s ≤ e) (he : e ≤ 64) (hp : w.d n = some (.inr (1, [.int g, .int (at0), .ref (n + 24), .int (l), .int f]))) (hn : w.d (n + 1) = some (.inl (0, 65, .inl nd))) (hN : ∀ i, s ≤ i → i ≤ e → w.a 7 i = nI (N i) ∧ N i < 8) (hq : Q (.returned none) (mw (r_giveW w n s e g at0 f nd N))) : Sp X 48 2 44 C S (0, [(0, .ref 0), (1, .ref (n + 23)), (2, .int (nI s)), (3, .int (nI e))], []) (mw w) Q := by
  refine Sp.go 2 (g := (3, [(4, .int (nI s)), (0, .ref 0), (1, .ref (n + 23)), (2, .int (nI s)), (3, .int (nI e))], [])) rfl ?_
  refine r_copy_loop he (e + 1 - s) s w nd (by omega) hp hn ?_
  refine Sp.go 2 (g := (34, [(4, .int (nI (e + 1))), (0, .ref 0), (1, .ref (n + 23)), (2, .int (nI s)), (3, .int (nI e))], [.int (nI e), .ref (n + 23)])) rfl ?_
  refine Sp.pl rfl (by rw [mWd.sd_ne _ _ (by omega)]; exact hp) (Nat.le_of_ble_eq_true rfl) rfl ?_
  refine Sp.go 2 (g := (40, [(4, .int (nI s)), (0, .ref 0), (1, .ref (n + 23)), (2, .int (nI s)), (3, .int (nI e))], [])) rfl ?_
  refine r_take_loop (lo := s) (nd := r_copy (w.a 7) s (e + 1 - s) nd) (N := N) he (fun i h1 h2 => ?_) (e - s) s _ (Nat.le_refl _) (by omega) (mWd.sd_d ..) (by rw [mWd.sd_ne _ _ (by omega)]; exact mWd.sd_d ..) hq
  rw [r_copy_at, if_pos (by omega)]
  exact hN i h1 h2
theorem r_back_loop {X : mX} {C S : Nat} {Q : Outcome → mM → Prop} {n e lo : Nat} {g at0 f v2 v3 : Int32} {nd : Nat → Int32} {N : Nat → Nat} (he : e ≤ 64) (hN : ∀ i, lo ≤ i → i ≤ e → nd i = nI (N i) ∧ N i < 8) : ∀ (d t : Nat) (w : mWd), lo ≤ t → t < 65 → t + d = max t e → w.d n = some (.inr (1, [.int g, .int (at0), .ref (n + 24), .int (nI e), .int f])) → w.d (n + 1) = some (.inl (0, 65, .inl nd)) → (∀ x : Int32, Sp X 49 2 44 C S (62, [(4, .int (x)), (3, .int (v3)), (2, .int (v2)), (0, .ref 0), (1, .ref (n + 23))], []) (mw ((w.sa 4 (r_gb4 N t d (w.a 4))).sa 5 (r_gb5 N t d (w.a 5)))) Q) → Sp X 49 2 44 C S (22, [(4, .int (nI t)), (3, .int (v3)), (2, .int (v2)), (0, .ref 0), (1, .ref (n + 23))], []) (mw w) Q := by
  intro d
  induction d with
  | zero =>
    intro t w hlo h65 ht hp hn kk
    simp only [r_gb4, r_gb5, mWd.sa_self] at kk
    refine Sp.go 2 (g := (25, [(4, .int (nI t)), (3, .int (v3)), (2, .int (v2)), (0, .ref 0), (1, .ref (n + 23))], [.ref (n + 23), .int (nI t)])) rfl ?_
    refine Sp.get (v := .int (nI e)) rfl hp rfl ?_
    refine Sp.icmp rfl (fun u1 => ?_) (fun u1 => absurd ((nI_le' (a := e) (b := t) (by omega) (by omega)).mpr (by omega)) u1)
    exact kk _
  | succ d ih =>
    intro t w hlo h65 ht hp hn kk
    refine Sp.go 2 (g := (25, [(4, .int (nI t)), (3, .int (v3)), (2, .int (v2)), (0, .ref 0), (1, .ref (n + 23))], [.ref (n + 23), .int (nI t)])) rfl ?_
    refine Sp.get (v := .int (nI e)) rfl hp rfl ?_
    refine Sp.icmp rfl (fun u1 => absurd u1 (fun q => absurd ((nI_le' (a := e) (b := t) (by omega) (by omega)).mp q) (by omega))) (fun u1 => ?_)
    refine Sp.go 1 (g := (32, [(4, .int (nI t)), (3, .int (v3)), (2, .int (v2)), (0, .ref 0), (1, .ref (n + 23))], [.ref 0])) rfl ?_
    refine Sp.get (v := .ref 1) rfl rfl rfl ?_
    refine Sp.go 1 (g := (36, [(4, .int (nI t)), (3, .int (v3)), (2, .int (v2)), (0, .ref 0), (1, .ref (n + 23))], [.ref (n + 23), .ref 1])) rfl ?_
    refine Sp.get (v := .ref (n + 24)) rfl hp rfl ?_
    refine Sp.go 1 (g := (41, [(4, .int (nI t)), (3, .int (v3)), (2, .int (v2)), (0, .ref 0), (1, .ref (n + 23))], [.int (nI t), .ref (n + 24), .ref 1])) rfl ?_
    refine Sp.iald (f := nd) (j := t) rfl hn (m_ix_of (by simp only [nI, Int32.ofNat_add, Int32.ofNat_mul] <;> rfl) (by omega) (by omega)) ?_
    rw [(hN t (by omega) (by omega)).1]
    refine Sp.go 1 (g := (43, [(4, .int (nI t)), (3, .int (v3)), (2, .int (v2)), (0, .ref 0), (1, .ref (n + 23))], [.ref (n + 23), .int (nI (N t)), .ref 1])) rfl ?_
    refine Sp.get (v := .ref (n + 24)) rfl hp rfl ?_
    refine Sp.go 3 (g := (50, [(4, .int (nI t)), (3, .int (v3)), (2, .int (v2)), (0, .ref 0), (1, .ref (n + 23))], [.int ((nI t) + 1), .ref (n + 24), .int (nI (N t)), .ref 1])) rfl ?_
    refine Sp.iald (f := nd) (j := t + 1) rfl hn (m_ix_of (by simp only [nI, Int32.ofNat_add, Int32.ofNat_mul] <;> rfl) (by omega) (by omega)) ?_
    rw [(hN (t + 1) (by omega) (by omega)).1]
    refine Sp.go 1 (g := (53, [(4, .int (nI t)), (3, .int (v3)), (2, .int (v2)), (0, .ref 0), (1, .ref (n + 23))], [.int (nI t), .int (nI (N (t + 1))), .int (nI (N t)), .ref 1])) rfl ?_
    refine Sp.vr none (mw ((w.sa 4 (n_gb4 (w.a 4) (N t) (N (t + 1)) t)).sa 5 (n_gb5 (w.a 5) (N t) (N (t + 1)) t))) (k' := 13) (F' := 1) (N' := 21) (C' := 0) (S' := 0) (vs := [.int (nI (N t)), .int (nI (N (t + 1))), .int (nI t)]) (st := []) rfl rfl rfl rfl (Nat.le_of_ble_eq_true rfl) (Nat.le_of_ble_eq_true rfl) (by decide) (by decide) (Nat.zero_le _) (Nat.zero_le _) (fun Q' h => n_giveBack (hN t (by omega) (by omega)).2 (hN (t + 1) (by omega) (by omega)).2 (by omega) h) ?_
    refine Sp.go 2 (g := (22, [(4, .int (nI t + 1)), (3, .int (v3)), (2, .int (v2)), (0, .ref 0), (1, .ref (n + 23))], [])) rfl ?_
    rw [← nI_succ]
    refine ih (t + 1) ((w.sa 4 (n_gb4 (w.a 4) (N t) (N (t + 1)) t)).sa 5 (n_gb5 (w.a 5) (N t) (N (t + 1)) t)) (by omega) (by omega) (by omega) hp hn (fun x => ?_)
    rw [mWd.sa_45]
    exact kk x
/-- behind cutOff: the steps from m on given back, last NOW or none -/
def r_cutW (w : mWd) (n m e : Nat) (g t f l' : Int32) (N : Nat → Nat) : mWd :=
  ((w.sa 4 (r_gb4 N m (e - m) (w.a 4))).sa 5 (r_gb5 N m (e - m) (w.a 5))).sd n (.inr (1, [.int g, .int t, .ref (n + 24), .int l', .int f]))
theorem r_cutOff {X : mX} {C S : Nat} {Q : Outcome → mM → Prop} {w : mWd} {n a0 T0 e : Nat} {g f : Int32} {nd : Nat → Int32} {N : Nat → Nat} (ha : a0 < 65) (hT : T0 ≤ 64) (he : e ≤ 64) (hnow : w.f 4 = nI T0) (hp : w.d n = some (.inr (1, [.int g, .int (nI a0), .ref (n + 24), .int (nI e), .int f]))) (hn : w.d (n + 1) = some (.inl (0, 65, .inl nd))) (hN : ∀ i, max a0 T0 ≤ i → i ≤ e → nd i = nI (N i) ∧ N i < 8) (hq : Q (.returned (some (.int (nI e - nI (max a0 T0))))) (mw (r_cutW w n (max a0 T0) e g (nI a0) f (if T0 < a0 then -1 else nI T0) N))) : Sp X 49 2 44 C S (0, [(0, .ref 0), (1, .ref (n + 23))], []) (mw w) Q := by
  refine Sp.go 1 (g := (1, [(0, .ref 0), (1, .ref (n + 23))], [.ref (n + 23)])) rfl ?_
  refine Sp.get (v := .int (nI a0)) rfl hp rfl ?_
  refine Sp.go 1 (g := (5, [(0, .ref 0), (1, .ref (n + 23))], [.ref 0, .int (nI a0)])) rfl ?_
  refine Sp.get (v := .int (nI T0)) rfl rfl (by rw [← hnow]; rfl) ?_
  refine Sp.max rfl (by decide) (Nat.le_of_ble_eq_true rfl) ?_
  rw [p_max (by omega) (by omega)]
  refine Sp.go 2 (g := (13, [(2, .int (nI (max a0 T0))), (0, .ref 0), (1, .ref (n + 23))], [.ref (n + 23)])) rfl ?_
  refine Sp.get (v := .int (nI e)) rfl hp rfl ?_
  refine Sp.go 5 (g := (22, [(4, .int (nI (max a0 T0))), (3, .int ((nI e) - (nI (max a0 T0)))), (2, .int (nI (max a0 T0))), (0, .ref 0), (1, .ref (n + 23))], [])) rfl ?_
  refine r_back_loop (lo := max a0 T0) he hN (e - max a0 T0) (max a0 T0) w (Nat.le_refl _) (by omega) (by omega) hp hn (fun x => ?_)
  refine Sp.go 2 (g := (64, [(4, .int (x)), (3, .int (nI e - nI (max a0 T0))), (2, .int (nI (max a0 T0))), (0, .ref 0), (1, .ref (n + 23))], [.ref (n + 23), .ref (n + 23)])) rfl ?_
  refine Sp.get (v := .int (nI a0)) rfl hp rfl ?_
  refine Sp.go 1 (g := (68, [(4, .int (x)), (3, .int (nI e - nI (max a0 T0))), (2, .int (nI (max a0 T0))), (0, .ref 0), (1, .ref (n + 23))], [.ref 0, .int (nI a0), .ref (n + 23)])) rfl ?_
  refine Sp.get (v := .int (nI T0)) rfl rfl (by rw [← hnow]; rfl) ?_
  refine Sp.icmp rfl (fun (h1 : (nI a0 : Int32) ≤ (nI T0 : Int32)) => ?_) (fun (h1 : ¬ ((nI a0 : Int32) ≤ (nI T0 : Int32))) => ?_)
  · skip
    refine Sp.go 1 (g := (79, [(4, .int (x)), (3, .int (nI e - nI (max a0 T0))), (2, .int (nI (max a0 T0))), (0, .ref 0), (1, .ref (n + 23))], [.ref 0, .ref (n + 23)])) rfl ?_
    refine Sp.get (v := .int (nI T0)) rfl rfl (by rw [← hnow]; rfl) ?_
    refine Sp.pl rfl hp (Nat.le_of_ble_eq_true rfl) rfl ?_
    refine Sp.go 1 (g := (86, [(4, .int (x)), (3, .int (nI e - nI (max a0 T0))), (2, .int (nI (max a0 T0))), (0, .ref 0), (1, .ref (n + 23))], [.int (nI e - nI (max a0 T0))])) rfl ?_
    refine Sp.iret rfl (Or.inl rfl) ?_
    rw [if_neg (show ¬ T0 < a0 from fun q => absurd ((nI_le' (by omega) (by omega)).mp h1) (by omega))] at hq; exact hq
  · skip
    refine Sp.go 2 (g := (82, [(4, .int (x)), (3, .int (nI e - nI (max a0 T0))), (2, .int (nI (max a0 T0))), (0, .ref 0), (1, .ref (n + 23))], [.int (-1), .ref (n + 23)])) rfl ?_
    refine Sp.pl rfl hp (Nat.le_of_ble_eq_true rfl) rfl ?_
    refine Sp.go 1 (g := (86, [(4, .int (x)), (3, .int (nI e - nI (max a0 T0))), (2, .int (nI (max a0 T0))), (0, .ref 0), (1, .ref (n + 23))], [.int (nI e - nI (max a0 T0))])) rfl ?_
    refine Sp.iret rfl (Or.inl rfl) ?_
    rw [if_pos (show T0 < a0 from Nat.lt_of_not_le fun q => h1 ((nI_le' (by omega) (by omega)).mpr q))] at hq; exact hq
theorem r_bookAnew_none {X : mX} {C S : Nat} {Q : Outcome → mM → Prop} {w : mWd} {n a0 T0 g a : Nat} {l f : Int32} {nd : Nat → Int32} (ha0 : a0 < 64) (hT : T0 < 64) (hnow : w.f 4 = nI T0) (hp : w.d n = some (.inr (1, [.int (nI g), .int (nI a0), .ref (n + 24), .int l, .int f]))) (hn : w.d (n + 1) = some (.inl (0, 65, .inl nd))) (hg : g < 8) (ha : a < 8) (hsrc : nd (max a0 T0) = nI a) (ho : w_end w a (max a0 T0) g = none) (hq : Q (.returned (some (.int 0))) (mw w)) : Sp X 51 5 119 C S (0, [(0, .ref 0), (1, .ref (n + 23))], []) (mw w) Q := by
  refine Sp.go 1 (g := (1, [(0, .ref 0), (1, .ref (n + 23))], [.ref (n + 23)])) rfl ?_
  refine Sp.get (v := .int (nI a0)) rfl hp rfl ?_
  refine Sp.go 1 (g := (5, [(0, .ref 0), (1, .ref (n + 23))], [.ref 0, .int (nI a0)])) rfl ?_
  refine Sp.get (v := .int (nI T0)) rfl rfl (by rw [← hnow]; rfl) ?_
  refine Sp.max rfl (by decide) (Nat.le_of_ble_eq_true rfl) ?_
  rw [p_max (by omega) (by omega)]
  refine Sp.go 2 (g := (13, [(2, .int (nI (max a0 T0))), (0, .ref 0), (1, .ref (n + 23))], [.ref 0])) rfl ?_
  refine Sp.get (v := .ref 6) rfl rfl rfl ?_
  refine Sp.go 1 (g := (17, [(2, .int (nI (max a0 T0))), (0, .ref 0), (1, .ref (n + 23))], [.ref 0, .ref 6])) rfl ?_
  refine Sp.get (v := .ref 1) rfl rfl rfl ?_
  refine Sp.go 1 (g := (21, [(2, .int (nI (max a0 T0))), (0, .ref 0), (1, .ref (n + 23))], [.ref (n + 23), .ref 1, .ref 6])) rfl ?_
  refine Sp.get (v := .ref (n + 24)) rfl hp rfl ?_
  refine Sp.go 1 (g := (25, [(2, .int (nI (max a0 T0))), (0, .ref 0), (1, .ref (n + 23))], [.int (nI (max a0 T0)), .ref (n + 24), .ref 1, .ref 6])) rfl ?_
  refine Sp.iald (f := nd) (j := max a0 T0) rfl hn (m_ix_of (by simp only [nI, Int32.ofNat_add, Int32.ofNat_mul] <;> rfl) (by omega) (by omega)) ?_
  rw [hsrc]
  refine Sp.go 2 (g := (28, [(2, .int (nI (max a0 T0))), (0, .ref 0), (1, .ref (n + 23))], [.ref (n + 23), .int (nI (max a0 T0)), .int (nI a), .ref 1, .ref 6])) rfl ?_
  refine Sp.get (v := .int (nI g)) rfl hp rfl ?_
  refine Sp.vr (some (.int (-1))) (mw (w)) (k' := 20) (F' := 4) (N' := 94) (C' := 0) (S' := 0) (vs := [.ref 1, .int (nI a), .int (nI (max a0 T0)), .int (nI g)]) (st := []) rfl rfl rfl rfl (Nat.le_of_ble_eq_true rfl) (Nat.le_of_ble_eq_true rfl) (by decide) (by decide) (Nat.zero_le _) (Nat.zero_le _) (fun Q' h => f_seek_none (by omega) hg ho h) ?_
  refine Sp.go 3 (g := (37, [(3, .int (-1)), (2, .int (nI (max a0 T0))), (0, .ref 0), (1, .ref (n + 23))], [.int (-1), .int (-1)])) rfl ?_
  refine Sp.icmp rfl (fun u1 => absurd u1 (fun q => q rfl)) (fun u1 => ?_)
  refine Sp.go 1 (g := (41, [(3, .int (-1)), (2, .int (nI (max a0 T0))), (0, .ref 0), (1, .ref (n + 23))], [.int 0])) rfl ?_
  refine Sp.iret rfl (Or.inr ⟨rfl, Or.inl rfl⟩) ?_
  exact hq
theorem r_bookAnew_some {X : mX} {C S : Nat} {Q : Outcome → mM → Prop} {w : mWd} {n a0 T0 g a : Nat} {l f : Int32} {nd : Nat → Int32} (ha0 : a0 < 64) (hT : T0 < 64) (hnow : w.f 4 = nI T0) (hp : w.d n = some (.inr (1, [.int (nI g), .int (nI a0), .ref (n + 24), .int l, .int f]))) (hn : w.d (n + 1) = some (.inl (0, 65, .inl nd))) (hg : g < 8) (ha : a < 8) (hsrc : nd (max a0 T0) = nI a) {e : Nat} {N : Nat → Nat} (ho : w_end w a (max a0 T0) g = some e) (hN : ∀ i, max a0 T0 ≤ i → i ≤ e → (w_sought w a (max a0 T0) e g).a 7 i = nI (N i) ∧ N i < 8) (hq : Q (.returned (some (.int 1))) (mw (r_giveW (w_sought w a (max a0 T0) e g) n (max a0 T0) e (nI g) (nI a0) f nd N))) : Sp X 51 5 119 C S (0, [(0, .ref 0), (1, .ref (n + 23))], []) (mw w) Q := by
  have he := f_soon_in _ _ _ _ _ _ ho
  refine Sp.go 1 (g := (1, [(0, .ref 0), (1, .ref (n + 23))], [.ref (n + 23)])) rfl ?_
  refine Sp.get (v := .int (nI a0)) rfl hp rfl ?_
  refine Sp.go 1 (g := (5, [(0, .ref 0), (1, .ref (n + 23))], [.ref 0, .int (nI a0)])) rfl ?_
  refine Sp.get (v := .int (nI T0)) rfl rfl (by rw [← hnow]; rfl) ?_
  refine Sp.max rfl (by decide) (Nat.le_of_ble_eq_true rfl) ?_
  rw [p_max (by omega) (by omega)]
  refine Sp.go 2 (g := (13, [(2, .int (nI (max a0 T0))), (0, .ref 0), (1, .ref (n + 23))], [.ref 0])) rfl ?_
  refine Sp.get (v := .ref 6) rfl rfl rfl ?_
  refine Sp.go 1 (g := (17, [(2, .int (nI (max a0 T0))), (0, .ref 0), (1, .ref (n + 23))], [.ref 0, .ref 6])) rfl ?_
  refine Sp.get (v := .ref 1) rfl rfl rfl ?_
  refine Sp.go 1 (g := (21, [(2, .int (nI (max a0 T0))), (0, .ref 0), (1, .ref (n + 23))], [.ref (n + 23), .ref 1, .ref 6])) rfl ?_
  refine Sp.get (v := .ref (n + 24)) rfl hp rfl ?_
  refine Sp.go 1 (g := (25, [(2, .int (nI (max a0 T0))), (0, .ref 0), (1, .ref (n + 23))], [.int (nI (max a0 T0)), .ref (n + 24), .ref 1, .ref 6])) rfl ?_
  refine Sp.iald (f := nd) (j := max a0 T0) rfl hn (m_ix_of (by simp only [nI, Int32.ofNat_add, Int32.ofNat_mul] <;> rfl) (by omega) (by omega)) ?_
  rw [hsrc]
  refine Sp.go 2 (g := (28, [(2, .int (nI (max a0 T0))), (0, .ref 0), (1, .ref (n + 23))], [.ref (n + 23), .int (nI (max a0 T0)), .int (nI a), .ref 1, .ref 6])) rfl ?_
  refine Sp.get (v := .int (nI g)) rfl hp rfl ?_
  refine Sp.vr (some (.int (nI e))) (mw ((w_sought w a (max a0 T0) e g))) (k' := 20) (F' := 4) (N' := 94) (C' := 0) (S' := 0) (vs := [.ref 1, .int (nI a), .int (nI (max a0 T0)), .int (nI g)]) (st := []) rfl rfl rfl rfl (Nat.le_of_ble_eq_true rfl) (Nat.le_of_ble_eq_true rfl) (by decide) (by decide) (Nat.zero_le _) (Nat.zero_le _) (fun Q' h => f_seek_some ha (by omega) hg ho h) ?_
  refine Sp.go 3 (g := (37, [(3, .int (nI e)), (2, .int (nI (max a0 T0))), (0, .ref 0), (1, .ref (n + 23))], [.int (-1), .int (nI e)])) rfl ?_
  refine Sp.icmp rfl (fun u1 => ?_) (fun u1 => absurd (f_ne1 (by omega)) u1)
  refine Sp.go 4 (g := (46, [(3, .int (nI e)), (2, .int (nI (max a0 T0))), (0, .ref 0), (1, .ref (n + 23))], [.int (nI e), .int (nI (max a0 T0)), .ref (n + 23), .ref 0])) rfl ?_
  refine Sp.vr none (mw (r_giveW (w_sought w a (max a0 T0) e g) n (max a0 T0) e (nI g) (nI a0) f nd N)) (k' := 48) (F' := 2) (N' := 44) (C' := 0) (S' := 0) (vs := [.ref (n + 23), .int (nI (max a0 T0)), .int (nI e)]) (st := []) rfl rfl rfl rfl (Nat.le_of_ble_eq_true rfl) (Nat.le_of_ble_eq_true rfl) (by decide) (by decide) (Nat.zero_le _) (Nat.zero_le _) (fun Q' h => r_give (N := N) (by omega) (by omega) hp hn hN h) ?_
  refine Sp.go 1 (g := (50, [(3, .int (nI e)), (2, .int (nI (max a0 T0))), (0, .ref 0), (1, .ref (n + 23))], [.int 1])) rfl ?_
  refine Sp.iret rfl (Or.inr ⟨rfl, Or.inr rfl⟩) ?_
  exact hq
end
section
/-! The desk: a new parcel, book, cancel, tick. Rows laid by wip/gen/desk4.py. -/
theorem mWd.mk_d (w : mWd) {m : Nat} (x : Option va_E) (k : Nat) (h : w.nx = m + 23) : (w.mk x k).d m = x := by
  have e : m = w.nx - 23 := by omega
  simp [mWd.mk, mWd.d, va_up, e]
theorem mWd.mk_ne (w : mWd) {m : Nat} (x : Option va_E) (k : Nat) (h : m + 23 ≠ w.nx) (h23 : 23 ≤ w.nx) : (w.mk x k).d m = w.d m := by
  have e : ¬ m = w.nx - 23 := by omega
  simp [mWd.mk, mWd.d, va_up, e]
section WQ
variable {X : mX} {k F N C S : Nat} {pc : Nat} {ls : List (Nat × Value)} {st : List Value} {w : mWd} {Q : Outcome → mM → Prop}
theorem Sp.plr {n idx j b : Nat} {fs : List Value} (hi : m_i k pc = some (.putfield idx, 1, j)) (hm : w.d n = some (.inr (1, fs))) (hj : j < fs.length) (hf : m_fit (m_ty 1 j) (.ref b) = true) (kk : Sp X k F N C S (pc + 3, ls, st) (mw (w.sd n (.inr (1, fs.set j (.ref b))))) Q) : Sp X k F N C S (pc, ls, .ref b :: .ref (n + 23) :: st) (mw w) Q :=
  Sp.put (a := n + 23) (fs := fs) (v := .ref b) hi hm hj hf (by rw [mw_d]; exact kk)
theorem Sp.nwi {a0 b0 n m : Nat} {x : Int32} (hi : m_i k pc = some (.newarray .int, a0, b0)) (hx0 : ¬ x < 0) (hx1 : x.toNatClampNeg = n) (hn1 : n ≤ 100000) (h1 : 1 ≤ C) (h2 : n ≤ S) (hnx : w.nx = m + 23) (kk : Sp X k F N (C - 1) (S - n) (pc + 2, ls, .ref (m + 23) :: st) (mw (w.mk (some (.inl (0, n, .inl fun _ => 0))) n)) Q) : Sp X k F N C S (pc, ls, .int x :: st) (mw w) Q := by
  refine Sp.newi hi hx0 hx1 hn1 h1 h2 ?_
  rw [mw_new _ _ _ (by omega), show (mw w).2.1 = m + 23 from hnx]
  exact kk
theorem Sp.nwp {idx m : Nat} (hi : m_i k pc = some (.new idx, 1, 0)) (h1 : 1 ≤ C) (h2 : 5 ≤ S) (hnx : w.nx = m + 23) (kk : Sp X k F N (C - 1) (S - 5) (pc + 3, ls, .ref (m + 23) :: st) (mw (w.mk (some (.inr (1, [.int 0, .int 0, .null, .int 0, .int 0]))) 5)) Q) : Sp X k F N C S (pc, ls, st) (mw w) Q := by
  refine Sp.new (n := 5) hi rfl rfl h1 h2 ?_
  rw [mw_new _ _ _ (by omega), show (mw w).2.1 = m + 23 from hnx]
  exact kk
theorem Sp.wpar {n j x0 y0 : Nat} {i : Int32} {fs : List Value} (hi : m_i k pc = some (.aastore, x0, y0)) (hm : w.d n = some (.inr (1, fs))) (hj : m_ix i j 32) (kk : Sp X k F N C S (pc + 1, ls, st) (mw (w.sp (va_up w.p j (some (n + 23))))) Q) : Sp X k F N C S (pc, ls, .ref (n + 23) :: .int i :: .ref 9 :: st) (mw w) Q :=
  Sp.aast (v := n + 23) (ci := 1) hi rfl hm rfl hj (by rw [mw_p]; exact kk)
end WQ
theorem p_init {X : mX} {C S : Nat} {Q : Outcome → mM → Prop} {w : mWd} {n : Nat} {g t : Int32} {fs : List Value} (hnx : w.nx = n + 24) (hp : w.d n = some (.inr (1, [.int 0, .int 0, .null, .int 0, .int 0]))) (hC : 1 ≤ C) (hS : 65 ≤ S)
    (hq : Q (.returned none) (mw ((w.mk (some (.inl (0, 65, .inl fun _ => 0))) 65).sd n (.inr (1, [.int g, .int t, .ref (n + 24), .int (-1), .int 0]))))) : Sp X 14 1 20 C S (0, [(0, .ref (n + 23)), (1, .int g), (2, .int t)], []) (mw w) Q := by
  refine Sp.go 1 (g := (1, [(0, .ref (n + 23)), (1, .int g), (2, .int t)], [.ref (n + 23)])) rfl ?_
  refine Sp.obj rfl (by decide) (Nat.le_of_ble_eq_true rfl) ?_
  refine Sp.go 2 (g := (7, [(0, .ref (n + 23)), (1, .int g), (2, .int t)], [.int 65, .ref (n + 23)])) rfl ?_
  refine Sp.nwi (n := 65) (m := n + 1) rfl (by decide) (by decide) (by decide) hC hS (by omega) ?_
  have hp1 : (w.mk (some (.inl (0, 65, .inl fun _ => 0))) 65).d n = some (.inr (1, [.int 0, .int 0, .null, .int 0, .int 0])) := by rw [mWd.mk_ne _ _ _ (by omega) (by omega)]; exact hp
  refine Sp.plr (n := n) rfl hp1 (Nat.le_of_ble_eq_true rfl) rfl ?_
  refine Sp.go 2 (g := (14, [(0, .ref (n + 23)), (1, .int g), (2, .int t)], [.int (-1), .ref (n + 23)])) rfl ?_
  refine Sp.pl (n := n) rfl (mWd.sd_d ..) (Nat.le_of_ble_eq_true rfl) rfl ?_
  refine Sp.wd (mWd.sd_sd ..) ?_
  refine Sp.go 2 (g := (19, [(0, .ref (n + 23)), (1, .int g), (2, .int t)], [.int 0, .ref (n + 23)])) rfl ?_
  refine Sp.pl (n := n) rfl (mWd.sd_d ..) (Nat.le_of_ble_eq_true rfl) rfl ?_
  refine Sp.wd (mWd.sd_sd ..) ?_
  refine Sp.go 2 (g := (24, [(0, .ref (n + 23)), (1, .int g), (2, .int t)], [.int g, .ref (n + 23)])) rfl ?_
  refine Sp.pl (n := n) rfl (mWd.sd_d ..) (Nat.le_of_ble_eq_true rfl) rfl ?_
  refine Sp.wd (mWd.sd_sd ..) ?_
  refine Sp.go 2 (g := (29, [(0, .ref (n + 23)), (1, .int g), (2, .int t)], [.int t, .ref (n + 23)])) rfl ?_
  refine Sp.pl (n := n) rfl (mWd.sd_d ..) (Nat.le_of_ble_eq_true rfl) rfl ?_
  refine Sp.wd (mWd.sd_sd ..) ?_
  exact Sp.vret rfl rfl hq
/-- the new parcel's cells, in the world w, at the place n -/
def r_born (w : mWd) (n : Nat) (g t : Int32) : mWd := (((w.mk (some (.inr (1, [.int 0, .int 0, .null, .int 0, .int 0]))) 5).mk (some (.inl (0, 65, .inl fun _ => 0))) 65).sd n (.inr (1, [.int g, .int t, .ref (n + 24), .int (-1), .int 0])))
def r_bookW (w : mWd) (a s e g P n : Nat) (N : Nat → Nat) : mWd :=
  ((r_giveW (r_born (w_sought w a s e g) n (nI g) (nI s)) n s e (nI g) (nI s) 0 (fun _ => 0) N).sp (va_up w.p P (some (n + 23)))).sf 3 (nI P + 1)
theorem r_book_some {X : mX} {C S : Nat} {Q : Outcome → mM → Prop} {w : mWd} {a g s : Nat} (ha : a < 8) (hgl : g < 8) (hs : s < 64) (hp : n_pair (w.f 2) (nI a) (nI g) = true) (hn : ¬ nI s < w.f 4) (h64 : nI s < 64) {e P n : Nat} {N : Nat → Nat} (hP : w.f 3 = nI P) (h32 : P < 32) (hnx : w.nx = n + 23) (hC : 2 ≤ C) (hS : 70 ≤ S) (ho : w_end w a s g = some e) (hN : ∀ i, s ≤ i → i ≤ e → (w_sought w a s e g).a 7 i = nI (N i) ∧ N i < 8) (hq : Q (.returned (some (.int (nI P)))) (mw (r_bookW w a s e g P n N))) : Sp X 30 8 127 C S (0, [(0, .ref 0), (1, .int (nI a)), (2, .int (nI g)), (3, .int (nI s))], []) (mw w) Q := by
  have hg : w.f 3 < 32 := by rw [hP]; exact (nI_lt' (b := 32) (by omega) (by omega)).mpr h32
  have he := f_soon_in _ _ _ _ _ _ ho
  refine Sp.go 4 (g := (4, [(0, .ref 0), (1, .int (nI a)), (2, .int (nI g)), (3, .int (nI s))], [.int (nI s), .int (nI g), .int (nI a), .ref 0])) rfl ?_
  refine Sp.vr none (mw (w)) (k' := 47) (F' := 7) (N' := 104) (C' := 0) (S' := 0) (vs := [.int (nI a), .int (nI g), .int (nI s)]) (st := []) rfl rfl rfl rfl (Nat.le_of_ble_eq_true rfl) (Nat.le_of_ble_eq_true rfl) (by decide) (by decide) (Nat.zero_le _) (Nat.zero_le _) (fun Q' h => r_checkBooking_ok hp hn h64 hg h) ?_
  refine Sp.go 1 (g := (8, [(0, .ref 0), (1, .int (nI a)), (2, .int (nI g)), (3, .int (nI s))], [.ref 0])) rfl ?_
  refine Sp.get (v := .ref 6) rfl rfl rfl ?_
  refine Sp.go 1 (g := (12, [(0, .ref 0), (1, .int (nI a)), (2, .int (nI g)), (3, .int (nI s))], [.ref 0, .ref 6])) rfl ?_
  refine Sp.get (v := .ref 1) rfl rfl rfl ?_
  refine Sp.go 3 (g := (18, [(0, .ref 0), (1, .int (nI a)), (2, .int (nI g)), (3, .int (nI s))], [.int (nI g), .int (nI s), .int (nI a), .ref 1, .ref 6])) rfl ?_
  refine Sp.vr (some (.int (nI e))) (mw (w_sought w a s e g)) (k' := 20) (F' := 4) (N' := 94) (C' := 0) (S' := 0) (vs := [.ref 1, .int (nI a), .int (nI s), .int (nI g)]) (st := []) rfl rfl rfl rfl (Nat.le_of_ble_eq_true rfl) (Nat.le_of_ble_eq_true rfl) (by decide) (by decide) (Nat.zero_le _) (Nat.zero_le _) (fun Q' h => f_seek_some (by omega) (by omega) (by omega) ho h) ?_
  refine Sp.go 3 (g := (26, [(4, .int (nI e)), (0, .ref 0), (1, .int (nI a)), (2, .int (nI g)), (3, .int (nI s))], [.int (-1), .int (nI e)])) rfl ?_
  refine Sp.icmp rfl (fun u1 => ?_) (fun u1 => absurd (f_ne1 (by omega)) u1)
  refine Sp.nwp (m := n) rfl (by omega) (by omega) hnx ?_
  refine Sp.go 3 (g := (37, [(4, .int (nI e)), (0, .ref 0), (1, .int (nI a)), (2, .int (nI g)), (3, .int (nI s))], [.int (nI s), .int (nI g), .ref (n + 23), .ref (n + 23)])) rfl ?_
  refine Sp.ir (mw (r_born (w_sought w a s e g) n (nI g) (nI s))) (k' := 14) (F' := 1) (N' := 20) (C' := 1) (S' := 65) (vs := [.int (nI g), .int (nI s)]) (st := [.ref (n + 23)]) rfl (by decide) rfl (Nat.le_of_ble_eq_true rfl) (Nat.le_of_ble_eq_true rfl) (by decide) (by decide) (by omega) (by omega) (fun Q' h => p_init (fs := []) (by show w.nx + 1 = n + 24; omega) (mWd.mk_d _ _ _ hnx) (by decide) (by decide) h) ?_
  have hb1 : (r_born (w_sought w a s e g) n (nI g) (nI s)).d n = some (.inr (1, [.int (nI g), .int (nI s), .ref (n + 24), .int (-1), .int 0])) := mWd.sd_d ..
  have hb2 : (r_born (w_sought w a s e g) n (nI g) (nI s)).d (n + 1) = some (.inl (0, 65, .inl fun _ => 0)) := by
    unfold r_born; rw [mWd.sd_ne _ _ (by omega)]; exact mWd.mk_d _ _ _ (by show w.nx + 1 = n + 1 + 23; omega)
  refine Sp.go 5 (g := (48, [(5, .ref (n + 23)), (4, .int (nI e)), (0, .ref 0), (1, .int (nI a)), (2, .int (nI g)), (3, .int (nI s))], [.int (nI e), .int (nI s), .ref (n + 23), .ref 0])) rfl ?_
  refine Sp.vr none (mw (r_giveW (r_born (w_sought w a s e g) n (nI g) (nI s)) n s e (nI g) (nI s) 0 (fun _ => 0) N)) (k' := 48) (F' := 2) (N' := 44) (C' := 0) (S' := 0) (vs := [.ref (n + 23), .int (nI s), .int (nI e)]) (st := []) rfl rfl rfl rfl (Nat.le_of_ble_eq_true rfl) (Nat.le_of_ble_eq_true rfl) (by decide) (by decide) (Nat.zero_le _) (Nat.zero_le _) (fun Q' h => r_give (N := N) (by omega) (by omega) hb1 hb2 hN h) ?_
  refine Sp.go 1 (g := (52, [(5, .ref (n + 23)), (4, .int (nI e)), (0, .ref 0), (1, .int (nI a)), (2, .int (nI g)), (3, .int (nI s))], [.ref 0])) rfl ?_
  refine Sp.get (v := .ref 9) rfl rfl rfl ?_
  refine Sp.go 1 (g := (56, [(5, .ref (n + 23)), (4, .int (nI e)), (0, .ref 0), (1, .int (nI a)), (2, .int (nI g)), (3, .int (nI s))], [.ref 0, .ref 9])) rfl ?_
  refine Sp.get (v := .int (nI P)) rfl rfl (by rw [← hP]; rfl) ?_
  refine Sp.go 1 (g := (61, [(5, .ref (n + 23)), (4, .int (nI e)), (0, .ref 0), (1, .int (nI a)), (2, .int (nI g)), (3, .int (nI s))], [.ref (n + 23), .int (nI P), .ref 9])) rfl ?_
  refine Sp.wpar (n := n) (j := P) (fs := [.int (nI g), .int (nI s), .ref (n + 24), .int (nI e), .int 0]) rfl (mWd.sd_d ..) (m_ix_of rfl h32 (by omega)) ?_
  refine Sp.go 2 (g := (64, [(5, .ref (n + 23)), (4, .int (nI e)), (0, .ref 0), (1, .int (nI a)), (2, .int (nI g)), (3, .int (nI s))], [.ref 0, .ref 0])) rfl ?_
  refine Sp.get (v := .int (nI P)) rfl rfl (by rw [← hP]; rfl) ?_
  refine Sp.go 2 (g := (69, [(5, .ref (n + 23)), (4, .int (nI e)), (0, .ref 0), (1, .int (nI a)), (2, .int (nI g)), (3, .int (nI s))], [.int ((nI P) + 1), .ref 0])) rfl ?_
  refine Sp.pf3 rfl ?_
  refine Sp.go 1 (g := (73, [(5, .ref (n + 23)), (4, .int (nI e)), (0, .ref 0), (1, .int (nI a)), (2, .int (nI g)), (3, .int (nI s))], [.ref 0])) rfl ?_
  refine Sp.get (v := .int (nI P + 1)) rfl rfl rfl ?_
  refine Sp.go 2 (g := (78, [(5, .ref (n + 23)), (4, .int (nI e)), (0, .ref 0), (1, .int (nI a)), (2, .int (nI g)), (3, .int (nI s))], [.int ((nI P + 1) - 1)])) rfl ?_
  refine Sp.iret rfl (Or.inl rfl) ?_
  rw [show nI P + 1 - 1 = nI P by rw [← nI_succ]; exact nI_pred P]; exact hq
/-- behind cancel: the steps given back, fate CANCELLED -/
theorem r_cancel_b0 {X : mX} {C S : Nat} {Q : Outcome → mM → Prop} {w : mWd} {x : Int32} (hxx : x < 0 ∨ w.f 3 ≤ x) (hC : 1 ≤ C) (hS : 6 ≤ S) (hx : 23 ≤ w.nx) (hq : Q (.threw 2) (mw (w.mk none 6))) : Sp X 32 6 82 C S (0, [(0, .ref 0), (1, .int (x))], []) (mw w) Q := by
  refine Sp.go 2 (g := (2, [(0, .ref 0), (1, .int (x))], [.int (x), .ref 0])) rfl ?_
  refine Sp.vr (some (.null)) (mw (w)) (k' := 45) (F' := 0) (N' := 0) (C' := 0) (S' := 0) (vs := [.int (x)]) (st := []) rfl rfl rfl rfl (Nat.le_of_ble_eq_true rfl) (Nat.le_of_ble_eq_true rfl) (by decide) (by decide) (Nat.zero_le _) (Nat.zero_le _) (fun Q' h => r_parcelOf_out hxx h) ?_
  refine Sp.go 3 (g := (10, [(2, .null), (0, .ref 0), (1, .int (x))], [])) rfl ?_
  refine Sp.th rfl (by decide) (Nat.le_of_ble_eq_true rfl) hC hS rfl hx ?_
  exact hq
theorem r_cancel_b1 {X : mX} {C S : Nat} {Q : Outcome → mM → Prop} {w : mWd} {P hd : Nat} {q : Nat → Nat} {g t l f : Nat → Int32} {nd : Nat → Nat → Int32} (hP : w.f 3 = nI P) (h32 : P ≤ 32) (hh : hd < P) (hc : c_P w P q g t l f nd) (hl : p_live (t hd) (l hd) (f hd) (w.f 4) = false) (hC : 1 ≤ C) (hS : 6 ≤ S) (hx : 23 ≤ w.nx) (hq : Q (.threw 1) (mw (w.mk none 6))) : Sp X 32 6 82 C S (0, [(0, .ref 0), (1, .int (nI hd))], []) (mw w) Q := by
  refine Sp.go 2 (g := (2, [(0, .ref 0), (1, .int (nI hd))], [.int (nI hd), .ref 0])) rfl ?_
  refine Sp.vr (some (.ref (q hd + 23))) (mw (w)) (k' := 45) (F' := 0) (N' := 0) (C' := 0) (S' := 0) (vs := [.int (nI hd)]) (st := []) rfl rfl rfl rfl (Nat.le_of_ble_eq_true rfl) (Nat.le_of_ble_eq_true rfl) (by decide) (by decide) (Nat.zero_le _) (Nat.zero_le _) (fun Q' h => r_parcelOf_in hP h32 hh (hc.1 hd hh).1 h) ?_
  refine Sp.go 5 (g := (22, [(2, .ref (q hd + 23)), (0, .ref 0), (1, .int (nI hd))], [.ref 0, .ref (q hd + 23)])) rfl ?_
  refine Sp.get (v := .int (w.f 4)) rfl rfl rfl ?_
  refine Sp.vr (some (.int (m_b2 (p_live (t hd) (l hd) (f hd) (w.f 4))))) (mw (w)) (k' := 16) (F' := 1) (N' := 21) (C' := 0) (S' := 0) (vs := [.int (w.f 4)]) (st := []) rfl (hc.1 hd hh).2.1 rfl rfl (Nat.le_of_ble_eq_true rfl) (Nat.le_of_ble_eq_true rfl) (by decide) (by decide) (Nat.zero_le _) (Nat.zero_le _) (fun Q' h => p_isUnderWay (hc.1 hd hh).2.1 h) ?_
  refine Sp.ifbn rfl (fun u1 => absurd u1 (by rw [hl]; decide)) (fun u1 => ?_)
  refine Sp.th rfl (by decide) (Nat.le_of_ble_eq_true rfl) hC hS rfl hx ?_
  exact hq
theorem r_cancel_ok {X : mX} {C S : Nat} {Q : Outcome → mM → Prop} {w : mWd} {P hd a0 T0 e : Nat} {q : Nat → Nat} {g t l f : Nat → Int32} {nd : Nat → Nat → Int32} {N : Nat → Nat} (hP : w.f 3 = nI P) (h32 : P ≤ 32) (hh : hd < P) (hc : c_P w P q g t l f nd) (ht : t hd = nI a0) (hl : l hd = nI e) (ha : a0 < 65) (hT : T0 ≤ 64) (he : e ≤ 64) (hnow : w.f 4 = nI T0) (hN : ∀ i, max a0 T0 ≤ i → i ≤ e → nd hd i = nI (N i) ∧ N i < 8) (hlv : p_live (t hd) (l hd) (f hd) (w.f 4) = true) (hq : Q (.returned (some (.int (nI e - nI (max a0 T0))))) (mw (r_cutW (w.sd (q hd) (.inr (1, [.int (g hd), .int (t hd), .ref (q hd + 24), .int (l hd), .int 4]))) (q hd) (max a0 T0) e (g hd) (nI a0) 4 (if T0 < a0 then -1 else nI T0) N))) : Sp X 32 6 82 C S (0, [(0, .ref 0), (1, .int (nI hd))], []) (mw w) Q := by
  refine Sp.go 2 (g := (2, [(0, .ref 0), (1, .int (nI hd))], [.int (nI hd), .ref 0])) rfl ?_
  refine Sp.vr (some (.ref (q hd + 23))) (mw (w)) (k' := 45) (F' := 0) (N' := 0) (C' := 0) (S' := 0) (vs := [.int (nI hd)]) (st := []) rfl rfl rfl rfl (Nat.le_of_ble_eq_true rfl) (Nat.le_of_ble_eq_true rfl) (by decide) (by decide) (Nat.zero_le _) (Nat.zero_le _) (fun Q' h => r_parcelOf_in hP h32 hh (hc.1 hd hh).1 h) ?_
  refine Sp.go 5 (g := (22, [(2, .ref (q hd + 23)), (0, .ref 0), (1, .int (nI hd))], [.ref 0, .ref (q hd + 23)])) rfl ?_
  refine Sp.get (v := .int (w.f 4)) rfl rfl rfl ?_
  refine Sp.vr (some (.int (m_b2 (p_live (t hd) (l hd) (f hd) (w.f 4))))) (mw (w)) (k' := 16) (F' := 1) (N' := 21) (C' := 0) (S' := 0) (vs := [.int (w.f 4)]) (st := []) rfl (hc.1 hd hh).2.1 rfl rfl (Nat.le_of_ble_eq_true rfl) (Nat.le_of_ble_eq_true rfl) (by decide) (by decide) (Nat.zero_le _) (Nat.zero_le _) (fun Q' h => p_isUnderWay (hc.1 hd hh).2.1 h) ?_
  refine Sp.ifbn rfl (fun u1 => ?_) (fun u1 => absurd u1 (by rw [hlv]; decide))
  refine Sp.go 2 (g := (43, [(2, .ref (q hd + 23)), (0, .ref 0), (1, .int (nI hd))], [.int 4, .ref (q hd + 23)])) rfl ?_
  refine Sp.pl rfl (hc.1 hd hh).2.1 (Nat.le_of_ble_eq_true rfl) rfl ?_
  refine Sp.go 2 (g := (48, [(2, .ref (q hd + 23)), (0, .ref 0), (1, .int (nI hd))], [.ref (q hd + 23), .ref 0])) rfl ?_
  refine Sp.vr (some (.int (nI e - nI (max a0 T0)))) (mw (r_cutW (w.sd (q hd) (.inr (1, [.int (g hd), .int (t hd), .ref (q hd + 24), .int (l hd), .int 4]))) (q hd) (max a0 T0) e (g hd) (nI a0) 4 (if T0 < a0 then -1 else nI T0) N)) (k' := 49) (F' := 2) (N' := 44) (C' := 0) (S' := 0) (vs := [.ref (q hd + 23)]) (st := []) rfl rfl rfl rfl (Nat.le_of_ble_eq_true rfl) (Nat.le_of_ble_eq_true rfl) (by decide) (by decide) (Nat.zero_le _) (Nat.zero_le _) (fun Q' h => r_cutOff ha hT he hnow (by rw [mWd.sd_d, ht, hl]; rfl) (by rw [mWd.sd_ne _ _ (by omega)]; exact (hc.1 hd hh).2.2.1) hN h) ?_
  refine Sp.iret rfl (Or.inl rfl) ?_
  exact hq
def r_cnt (p : Nat → Bool) : Nat → Nat → Int32 → Int32
  | _, 0, acc => acc
  | h, d + 1, acc => r_cnt p (h + 1) d (if p h = true then acc + 1 else acc)
/-- does the parcel h arrive with the tick k? -/
def r_arr (t l f : Nat → Int32) (k : Int32) (h : Nat) : Bool := decide (p_state (t h) (l h) (f h) k = 3) && decide (l h = k)
theorem r_tick_b0 {X : mX} {C S : Nat} {Q : Outcome → mM → Prop} {w : mWd} (h64 : (64 : Int32) ≤ w.f 4) (hC : 1 ≤ C) (hS : 6 ≤ S) (hx : 23 ≤ w.nx) (hq : Q (.threw 1) (mw (w.mk none 6))) : Sp X 34 6 82 C S (0, [(0, .ref 0)], []) (mw w) Q := by
  refine Sp.go 1 (g := (1, [(0, .ref 0)], [.ref 0])) rfl ?_
  refine Sp.get (v := .int (w.f 4)) rfl rfl rfl ?_
  refine Sp.go 1 (g := (6, [(0, .ref 0)], [.int 64, .int (w.f 4)])) rfl ?_
  refine Sp.icmp rfl (fun u1 => absurd u1 (k2_nlt h64)) (fun u1 => ?_)
  refine Sp.th rfl (by decide) (Nat.le_of_ble_eq_true rfl) hC hS rfl hx ?_
  exact hq
theorem r_tick_loop {X : mX} {C S : Nat} {Q : Outcome → mM → Prop} {w : mWd} {P : Nat} {q : Nat → Nat} {g t l f : Nat → Int32} {nd : Nat → Nat → Int32} (hP : w.f 3 = nI P) (h32 : P ≤ 32) (hc : c_P w P q g t l f nd) : ∀ (d hd : Nat) (acc : Int32), hd + d = P → Q (.returned (some (.int (r_cnt (r_arr t l f (w.f 4)) hd d acc)))) (mw w) → Sp X 34 6 82 C S (33, [(2, .int (nI hd)), (1, .int (acc)), (0, .ref 0)], []) (mw w) Q := by
  intro d
  induction d with
  | zero =>
    intro hd acc hh hq
    refine Sp.go 2 (g := (35, [(2, .int (nI hd)), (1, .int (acc)), (0, .ref 0)], [.ref 0, .int (nI hd)])) rfl ?_
    refine Sp.get (v := .int (w.f 3)) rfl rfl rfl ?_
    refine Sp.icmp rfl (fun u1 => ?_) (fun u1 => absurd (by rw [hP]; exact (nI_le' (by omega) (by omega)).mpr (by omega)) u1)
    refine Sp.go 1 (g := (84, [(2, .int (nI hd)), (1, .int (acc)), (0, .ref 0)], [.int (acc)])) rfl ?_
    refine Sp.iret rfl (Or.inl rfl) ?_
    exact hq
  | succ d ih =>
    intro hd acc hh0 hq
    have hh : hd < P := by omega
    simp only [r_cnt] at hq
    refine Sp.go 2 (g := (35, [(2, .int (nI hd)), (1, .int (acc)), (0, .ref 0)], [.ref 0, .int (nI hd)])) rfl ?_
    refine Sp.get (v := .int (w.f 3)) rfl rfl rfl ?_
    refine Sp.icmp rfl (fun u1 => absurd u1 (by rw [hP]; exact fun z => absurd ((nI_le' (by omega) (by omega)).mp z) (by omega))) (fun u1 => ?_)
    refine Sp.go 2 (g := (43, [(2, .int (nI hd)), (1, .int (acc)), (0, .ref 0)], [.int (nI hd), .ref 0])) rfl ?_
    refine Sp.vr (some (.ref (q hd + 23))) (mw (w)) (k' := 45) (F' := 0) (N' := 0) (C' := 0) (S' := 0) (vs := [.int (nI hd)]) (st := []) rfl rfl rfl rfl (Nat.le_of_ble_eq_true rfl) (Nat.le_of_ble_eq_true rfl) (by decide) (by decide) (Nat.zero_le _) (Nat.zero_le _) (fun Q' h => r_parcelOf_in hP h32 hh (hc.1 hd hh).1 h) ?_
    refine Sp.go 5 (g := (53, [(3, .ref (q hd + 23)), (2, .int (nI hd)), (1, .int (acc)), (0, .ref 0)], [.ref 0, .ref (q hd + 23)])) rfl ?_
    refine Sp.get (v := .int (w.f 4)) rfl rfl rfl ?_
    refine Sp.vr (some (.int (p_state (t hd) (l hd) (f hd) (w.f 4)))) (mw (w)) (k' := 15) (F' := 0) (N' := 0) (C' := 0) (S' := 0) (vs := [.int (w.f 4)]) (st := []) rfl (hc.1 hd hh).2.1 rfl rfl (Nat.le_of_ble_eq_true rfl) (Nat.le_of_ble_eq_true rfl) (by decide) (by decide) (Nat.zero_le _) (Nat.zero_le _) (fun Q' h => p_stateAt (hc.1 hd hh).2.1 h) ?_
    refine Sp.go 1 (g := (60, [(3, .ref (q hd + 23)), (2, .int (nI hd)), (1, .int (acc)), (0, .ref 0)], [.int 3, .int (p_state (t hd) (l hd) (f hd) (w.f 4))])) rfl ?_
    refine Sp.icmp rfl (fun (h2 : ¬ (p_state (t hd) (l hd) (f hd) (w.f 4) : Int32) = (3 : Int32)) => ?_) (fun (h2 : ¬ (¬ (p_state (t hd) (l hd) (f hd) (w.f 4) : Int32) = (3 : Int32))) => ?_)
    · skip
      refine Sp.go 2 (g := (33, [(2, .int (nI hd + 1)), (3, .ref (q hd + 23)), (1, .int (acc)), (0, .ref 0)], [])) rfl ?_
      refine Sp.lsub [0, 2, 3] (ls' := [(2, .int (nI hd + 1)), (1, .int (acc)), (0, .ref 0)]) rfl ?_
      rw [← nI_succ]
      refine ih (hd + 1) _ (by omega) ?_
      first | (rw [if_neg (by simp only [r_arr]; simp_all)] at hq; exact hq) | (rw [if_pos (by simp only [r_arr]; simp_all)] at hq; exact hq)
    · skip
      refine Sp.go 1 (g := (64, [(3, .ref (q hd + 23)), (2, .int (nI hd)), (1, .int (acc)), (0, .ref 0)], [.ref (q hd + 23)])) rfl ?_
      refine Sp.get (v := .int (l hd)) rfl (hc.1 hd hh).2.1 rfl ?_
      refine Sp.go 1 (g := (68, [(3, .ref (q hd + 23)), (2, .int (nI hd)), (1, .int (acc)), (0, .ref 0)], [.ref 0, .int (l hd)])) rfl ?_
      refine Sp.get (v := .int (w.f 4)) rfl rfl rfl ?_
      refine Sp.icmp rfl (fun (h3 : ¬ (l hd : Int32) = (w.f 4 : Int32)) => ?_) (fun (h3 : ¬ (¬ (l hd : Int32) = (w.f 4 : Int32))) => ?_)
      · skip
        refine Sp.go 2 (g := (33, [(2, .int (nI hd + 1)), (3, .ref (q hd + 23)), (1, .int (acc)), (0, .ref 0)], [])) rfl ?_
        refine Sp.lsub [0, 2, 3] (ls' := [(2, .int (nI hd + 1)), (1, .int (acc)), (0, .ref 0)]) rfl ?_
        rw [← nI_succ]
        refine ih (hd + 1) _ (by omega) ?_
        first | (rw [if_neg (by simp only [r_arr]; simp_all)] at hq; exact hq) | (rw [if_pos (by simp only [r_arr]; simp_all)] at hq; exact hq)
      · skip
        refine Sp.go 3 (g := (33, [(2, .int (nI hd + 1)), (1, .int (acc + 1)), (3, .ref (q hd + 23)), (0, .ref 0)], [])) rfl ?_
        refine Sp.lsub [0, 1, 3] (ls' := [(2, .int (nI hd + 1)), (1, .int (acc + 1)), (0, .ref 0)]) rfl ?_
        rw [← nI_succ]
        refine ih (hd + 1) _ (by omega) ?_
        first | (rw [if_neg (by simp only [r_arr]; simp_all)] at hq; exact hq) | (rw [if_pos (by simp only [r_arr]; simp_all)] at hq; exact hq)
theorem r_tick_ok {X : mX} {C S : Nat} {Q : Outcome → mM → Prop} {w : mWd} {P : Nat} {q : Nat → Nat} {g t l f : Nat → Int32} {nd : Nat → Nat → Int32} (hP : w.f 3 = nI P) (h32 : P ≤ 32) (hc : c_P w P q g t l f nd) (h64 : w.f 4 < 64) (hq : Q (.returned (some (.int (r_cnt (r_arr t l f (w.f 4 + 1)) 0 P 0)))) (mw (w.sf 4 (w.f 4 + 1)))) : Sp X 34 6 82 C S (0, [(0, .ref 0)], []) (mw w) Q := by
  refine Sp.go 1 (g := (1, [(0, .ref 0)], [.ref 0])) rfl ?_
  refine Sp.get (v := .int (w.f 4)) rfl rfl rfl ?_
  refine Sp.go 1 (g := (6, [(0, .ref 0)], [.int 64, .int (w.f 4)])) rfl ?_
  refine Sp.icmp rfl (fun u1 => ?_) (fun u1 => absurd h64 u1)
  refine Sp.go 2 (g := (21, [(0, .ref 0)], [.ref 0, .ref 0])) rfl ?_
  refine Sp.get (v := .int (w.f 4)) rfl rfl rfl ?_
  refine Sp.go 2 (g := (26, [(0, .ref 0)], [.int ((w.f 4) + 1), .ref 0])) rfl ?_
  refine Sp.pf4 rfl ?_
  refine Sp.go 4 (g := (33, [(2, .int 0), (1, .int 0), (0, .ref 0)], [])) rfl ?_
  exact r_tick_loop (w := w.sf 4 (w.f 4 + 1)) hP h32 hc P 0 0 (by omega) hq
end
section
/-! The mathematical state: what both the desk and the reference stand for. -/
/-- T; contacts made; parcels; places of the nodes; open; goal, at, last, end (0 live, 3, 4, 5); nodes -/
abbrev aS : Type := Nat × Nat × Nat × (Nat → Option Nat) × (Nat → Nat → Nat → Bool) × (Nat → Nat) × (Nat → Nat) × (Nat → Nat) × (Nat → Nat) × (Nat → Nat → Nat)
def aS.T (A : aS) : Nat := A.1
def aS.nc (A : aS) : Nat := A.2.1
def aS.P (A : aS) : Nat := A.2.2.1
def aS.pl (A : aS) : Nat → Option Nat := A.2.2.2.1
def aS.op (A : aS) : Nat → Nat → Nat → Bool := A.2.2.2.2.1
def aS.go (A : aS) : Nat → Nat := A.2.2.2.2.2.1
def aS.at (A : aS) : Nat → Nat := A.2.2.2.2.2.2.1
def aS.la (A : aS) : Nat → Nat := A.2.2.2.2.2.2.2.1
def aS.fa (A : aS) : Nat → Nat := A.2.2.2.2.2.2.2.2.1
def aS.nd (A : aS) : Nat → Nat → Nat := A.2.2.2.2.2.2.2.2.2
def a_goes (A : aS) (h t a b : Nat) : Bool := decide (A.at h ≤ t) && (decide (t < A.la h) && (decide (A.nd h t = a) && decide (A.nd h (t + 1) = b)))
def a_used (A : aS) (t a b : Nat) : Nat := g_cnt (fun h => a_goes A h t a b) A.P
def a_fr (A : aS) (t a b : Nat) : Bool := if a = b then (match A.pl a with
  | some c => decide (a_used A t a a < c)
  | none => false) else A.op a b t && decide (a_used A t a b = 0)
def a_isn (A : aS) (x : Int32) : Bool := !decide (x < 0) && (decide (x < 8) && (A.pl x.toNatClampNeg).isSome)
def a_pair (A : aS) (x y : Int32) : Bool := a_isn A x && (a_isn A y && !decide (x = y))
def a_places (o : Option Nat) : Int32 := match o with
  | some c => nI c
  | none => -1
/-- numbers that stay small -/
def a_ok (A : aS) : Prop := A.T ≤ 64 ∧ A.nc ≤ 24 ∧ A.P ≤ 32 ∧ (∀ n c, A.pl n = some c → c ≤ 4) ∧ ∀ h, h < A.P → A.go h < 8 ∧ A.at h < 64 ∧ A.la h ≤ 64 ∧ ∀ i, i < 65 → A.nd h i < 8
/-- the reference holds A, but for the rows of nodes that no parcel has yet -/
def JR0 (w : mWd) (A : aS) : Prop :=
  w.f 6 = nI A.T ∧ w.f 7 = nI A.nc ∧ w.f 8 = nI A.P ∧ (∀ n, n < 8 → w.a 11 n = a_places (A.pl n)) ∧ (∀ a b t, a < 8 → b < 8 → t < 64 → w.a 12 (512 * a + 64 * b + t) = m_b2 (A.op a b t)) ∧
  (∀ h, h < A.P → w.a 13 h = nI (A.go h) ∧ w.a 14 h = nI (A.nd h (A.at h)) ∧ w.a 15 h = nI (A.at h) ∧ w.a 16 h = nI (A.fa h) ∧ w.a 17 h = nI (A.at h) ∧ w.a 18 h = nI (A.la h) ∧ ∀ i, i < 65 → w.a 19 (65 * h + i) = nI (A.nd h i)) ∧ True
/-- the reference holds A -/
def JR (w : mWd) (A : aS) : Prop := JR0 w A ∧ ∀ h, h < 32 → ∀ i, i < 65 → w.a 19 (65 * h + i) = nI (A.nd h i)
theorem a_places_neg (o : Option Nat) (h : ∀ c, o = some c → c ≤ 4) : (0 : Int32) ≤ a_places o ↔ o.isSome = true := by
  cases o with
  | none => simp only [a_places, Option.isSome_none, Bool.false_eq_true, iff_false]; decide
  | some c =>
    simp only [a_places, Option.isSome_some, iff_true]
    exact nI_pos' (by have := h c rfl; omega)
theorem a_isn_nI {A : aS} {n : Nat} (hn : n < 8) : a_isn A (nI n) = (A.pl n).isSome := by
  simp [a_isn, nI_pos (n := n) (by omega), show nI n < 8 from (nI_lt' (b := 8) (by omega) (by omega)).mpr hn, nI_clamp (n := n) (by omega)]
theorem a_isn_spec {A : aS} {x : Int32} (h : a_isn A x = true) : ∃ n, n < 8 ∧ x = nI n ∧ (A.pl n).isSome = true := by
  simp only [a_isn, Bool.and_eq_true, Bool.not_eq_true', decide_eq_false_iff_not, decide_eq_true_eq] at h
  exact ⟨x.toNatClampNeg, n_is_lt h.1 (k2_nle h.2.1), m_nat h.1, h.2.2⟩
theorem a_pair_spec {A : aS} {x y : Int32} (h : a_pair A x y = true) : ∃ a b, a < 8 ∧ b < 8 ∧ a ≠ b ∧ x = nI a ∧ y = nI b ∧ (A.pl a).isSome = true ∧ (A.pl b).isSome = true := by
  simp only [a_pair, Bool.and_eq_true, Bool.not_eq_true', decide_eq_false_iff_not] at h
  obtain ⟨a, ha, rfl, h1⟩ := a_isn_spec h.1
  obtain ⟨b, hb, rfl, h2⟩ := a_isn_spec h.2.1
  exact ⟨a, b, ha, hb, fun e => h.2.2 (by rw [e]), rfl, rfl, h1, h2⟩
theorem a_used_le (A : aS) (t a b : Nat) (h : A.P ≤ 32) : a_used A t a b ≤ 32 := Nat.le_trans (g_cnt_le _ _) h
end
section
/-! The reference: its small methods. Rows laid by wip/gen/model1.py. -/
theorem d_thrown {X : mX} {C S : Nat} {Q : Outcome → mM → Prop} {w : mWd} (hq : Q (.returned (some (.int (w.f 5)))) (mw w)) : Sp X 53 0 0 C S (0, [(0, .ref 10)], []) (mw w) Q := by
  refine Sp.go 1 (g := (1, [(0, .ref 10)], [.ref 10])) rfl ?_
  refine Sp.get (v := .int (w.f 5)) rfl rfl rfl ?_
  refine Sp.iret rfl (Or.inl rfl) ?_
  exact hq
theorem d_7n {x : Int32} (h0 : ¬ x < 0) (h : ¬ (7 : Int32) < x) : x.toNatClampNeg < 8 := by
  refine n_is_lt h0 (fun q => h ?_)
  rw [Int32.lt_iff_toInt_lt]
  rw [Int32.le_iff_toInt_le] at q
  have e1 : (8 : Int32).toInt = 8 := by decide
  have e2 : (7 : Int32).toInt = 7 := by decide
  omega
theorem d_7 {x : Int32} (h0 : ¬ x < 0) (h : (7 : Int32) < x) : ¬ x < 8 := by
  intro q
  rw [Int32.lt_iff_toInt_lt] at h q
  have e1 : (8 : Int32).toInt = 8 := by decide
  have e2 : (7 : Int32).toInt = 7 := by decide
  omega
theorem d_noNode {X : mX} {C S : Nat} {Q : Outcome → mM → Prop} {w : mWd} {A : aS} (ho : a_ok A) (hj : JR0 w A) {x : Int32} (hq : Q (.returned (some (.int (m_b2 (!a_isn A x))))) (mw w)) : Sp X 54 0 0 C S (0, [(0, .ref 10), (1, .int (x))], []) (mw w) Q := by
  by_cases h0 : x < 0
  · rw [show a_isn A x = false by simp [a_isn, h0]] at hq
    refine Sp.go 1 (g := (1, [(0, .ref 10), (1, .int x)], [.int x])) rfl ?_
    refine Sp.if rfl (fun _ => ?_) (fun h => absurd h0 h)
    refine Sp.go 2 (g := (24, [(0, .ref 10), (1, .int x)], [.int 1])) rfl ?_
    exact Sp.iret rfl (Or.inr ⟨rfl, Or.inr rfl⟩) hq
  refine Sp.go 1 (g := (1, [(0, .ref 10), (1, .int x)], [.int x])) rfl ?_
  refine Sp.if rfl (fun h => absurd h h0) (fun _ => ?_)
  refine Sp.go 2 (g := (7, [(0, .ref 10), (1, .int x)], [.int 7, .int x])) rfl ?_
  refine Sp.icmp rfl (fun (h7 : (7 : Int32) < x) => ?_) (fun (h7 : ¬ (7 : Int32) < x) => ?_)
  · rw [show a_isn A x = false by simp [a_isn, show ¬ x < 8 from d_7 h0 h7]] at hq
    refine Sp.go 2 (g := (24, [(0, .ref 10), (1, .int x)], [.int 1])) rfl ?_
    exact Sp.iret rfl (Or.inr ⟨rfl, Or.inr rfl⟩) hq
  have hlt := d_7n h0 h7
  rw [m_nat h0, a_isn_nI hlt] at hq
  have hx := m_nat h0
  generalize x.toNatClampNeg = n at hx hlt hq
  subst hx
  refine Sp.go 1 (g := (11, [(0, .ref 10), (1, .int (nI n))], [.ref 10])) rfl ?_
  refine Sp.get (v := .ref 11) rfl rfl rfl ?_
  refine Sp.go 1 (g := (15, [(0, .ref 10), (1, .int (nI n))], [.int (nI n), .ref 11])) rfl ?_
  refine Sp.iald (f := w.a 11) (j := n) rfl rfl (m_ix_of (by simp only [nI, Int32.ofNat_add, Int32.ofNat_mul] <;> rfl) (by omega) (by omega)) ?_
  rw [hj.2.2.2.1 n hlt]
  refine Sp.if rfl (fun (h1 : (0 : Int32) ≤ (a_places (A.pl n) : Int32)) => ?_) (fun (h1 : ¬ ((0 : Int32) ≤ (a_places (A.pl n) : Int32))) => ?_)
  · skip
    refine Sp.go 1 (g := (24, [(0, .ref 10), (1, .int (nI n))], [.int 0])) rfl ?_
    refine Sp.iret rfl (Or.inr ⟨rfl, Or.inl rfl⟩) ?_
    rw [show (A.pl n).isSome = true from (a_places_neg _ (fun c hc => ho.2.2.2.1 n c hc)).mp h1] at hq; exact hq
  · skip
    refine Sp.go 2 (g := (24, [(0, .ref 10), (1, .int (nI n))], [.int 1])) rfl ?_
    refine Sp.iret rfl (Or.inr ⟨rfl, Or.inr rfl⟩) ?_
    rw [show (A.pl n).isSome = false by cases hb : (A.pl n).isSome with | false => rfl | true => exact absurd ((a_places_neg _ (fun c hc => ho.2.2.2.1 n c hc)).mpr hb) h1] at hq; exact hq
theorem d_noPair {X : mX} {C S : Nat} {Q : Outcome → mM → Prop} {w : mWd} {A : aS} (ho : a_ok A) (hj : JR0 w A) {x y : Int32} (hq : Q (.returned (some (.int (m_b2 (!a_pair A x y))))) (mw w)) : Sp X 55 1 21 C S (0, [(0, .ref 10), (1, .int (x)), (2, .int (y))], []) (mw w) Q := by
  refine Sp.go 2 (g := (2, [(0, .ref 10), (1, .int (x)), (2, .int (y))], [.int (x), .ref 10])) rfl ?_
  refine Sp.vr (some (.int (m_b2 (!a_isn A (x))))) (mw (w)) (k' := 54) (F' := 0) (N' := 0) (C' := 0) (S' := 0) (vs := [.int (x)]) (st := []) rfl rfl rfl rfl (Nat.le_of_ble_eq_true rfl) (Nat.le_of_ble_eq_true rfl) (by decide) (by decide) (Nat.zero_le _) (Nat.zero_le _) (fun Q' h => d_noNode ho hj h) ?_
  refine Sp.ifbn rfl (fun h1 => ?_) (fun h1 => ?_)
  · skip
    refine Sp.go 2 (g := (26, [(0, .ref 10), (1, .int (x)), (2, .int (y))], [.int 1])) rfl ?_
    refine Sp.iret rfl (Or.inr ⟨rfl, Or.inr rfl⟩) ?_
    rw [show a_pair A x y = false by simp_all [a_pair]] at hq; exact hq
  · skip
    refine Sp.go 2 (g := (10, [(0, .ref 10), (1, .int (x)), (2, .int (y))], [.int (y), .ref 10])) rfl ?_
    refine Sp.vr (some (.int (m_b2 (!a_isn A (y))))) (mw (w)) (k' := 54) (F' := 0) (N' := 0) (C' := 0) (S' := 0) (vs := [.int (y)]) (st := []) rfl rfl rfl rfl (Nat.le_of_ble_eq_true rfl) (Nat.le_of_ble_eq_true rfl) (by decide) (by decide) (Nat.zero_le _) (Nat.zero_le _) (fun Q' h => d_noNode ho hj h) ?_
    refine Sp.ifbn rfl (fun h2 => ?_) (fun h2 => ?_)
    · skip
      refine Sp.go 2 (g := (26, [(0, .ref 10), (1, .int (x)), (2, .int (y))], [.int 1])) rfl ?_
      refine Sp.iret rfl (Or.inr ⟨rfl, Or.inr rfl⟩) ?_
      rw [show a_pair A x y = false by simp_all [a_pair]] at hq; exact hq
    · skip
      refine Sp.go 2 (g := (18, [(0, .ref 10), (1, .int (x)), (2, .int (y))], [.int (y), .int (x)])) rfl ?_
      refine Sp.icmp rfl (fun (h3 : ¬ (x : Int32) = (y : Int32)) => ?_) (fun (h3 : ¬ (¬ (x : Int32) = (y : Int32))) => ?_)
      · skip
        refine Sp.go 1 (g := (26, [(0, .ref 10), (1, .int (x)), (2, .int (y))], [.int 0])) rfl ?_
        refine Sp.iret rfl (Or.inr ⟨rfl, Or.inl rfl⟩) ?_
        rw [show a_pair A x y = true by simp_all [a_pair]] at hq; exact hq
      · skip
        refine Sp.go 2 (g := (26, [(0, .ref 10), (1, .int (x)), (2, .int (y))], [.int 1])) rfl ?_
        refine Sp.iret rfl (Or.inr ⟨rfl, Or.inr rfl⟩) ?_
        rw [show a_pair A x y = false by simp_all [a_pair]] at hq; exact hq
theorem d_noTick {X : mX} {C S : Nat} {Q : Outcome → mM → Prop} {w : mWd} {x : Int32} (hq : Q (.returned (some (.int (m_b2 (!r_tick x))))) (mw w)) : Sp X 56 0 0 C S (0, [(0, .int (x))], []) (mw w) Q := by
  refine Sp.go 1 (g := (1, [(0, .int (x))], [.int (x)])) rfl ?_
  refine Sp.if rfl (fun (h1 : (x : Int32) < (0 : Int32)) => ?_) (fun (h1 : ¬ ((x : Int32) < (0 : Int32))) => ?_)
  · skip
    refine Sp.go 2 (g := (15, [(0, .int (x))], [.int 1])) rfl ?_
    refine Sp.iret rfl (Or.inr ⟨rfl, Or.inr rfl⟩) ?_
    rw [show r_tick x = false by simp [r_tick, h1]] at hq; exact hq
  · skip
    refine Sp.go 2 (g := (7, [(0, .int (x))], [.int 64, .int (x)])) rfl ?_
    refine Sp.icmp rfl (fun (h2 : (x : Int32) < (64 : Int32)) => ?_) (fun (h2 : ¬ ((x : Int32) < (64 : Int32))) => ?_)
    · skip
      refine Sp.go 1 (g := (15, [(0, .int (x))], [.int 0])) rfl ?_
      refine Sp.iret rfl (Or.inr ⟨rfl, Or.inl rfl⟩) ?_
      rw [show r_tick x = true by simp [r_tick, h1, h2]] at hq; exact hq
    · skip
      refine Sp.go 2 (g := (15, [(0, .int (x))], [.int 1])) rfl ?_
      refine Sp.iret rfl (Or.inr ⟨rfl, Or.inr rfl⟩) ?_
      rw [show r_tick x = false by simp [r_tick, h2]] at hq; exact hq
theorem d_isOpen {X : mX} {C S : Nat} {Q : Outcome → mM → Prop} {w : mWd} {A : aS} (ho : a_ok A) (hj : JR0 w A) {a b t : Nat} (ha : a < 8) (hb : b < 8) (ht : t < 64) (hq : Q (.returned (some (.int (m_b2 (A.op a b t))))) (mw w)) : Sp X 57 0 0 C S (0, [(0, .ref 10), (1, .int (nI a)), (2, .int (nI b)), (3, .int (nI t))], []) (mw w) Q := by
  refine Sp.go 1 (g := (1, [(0, .ref 10), (1, .int (nI a)), (2, .int (nI b)), (3, .int (nI t))], [.ref 10])) rfl ?_
  refine Sp.get (v := .ref 12) rfl rfl rfl ?_
  refine Sp.go 9 (g := (16, [(0, .ref 10), (1, .int (nI a)), (2, .int (nI b)), (3, .int (nI t))], [.int (((512 * (nI a)) + (64 * (nI b))) + (nI t)), .ref 12])) rfl ?_
  refine Sp.zald (f := w.a 12) (j := ((512 * a) + (64 * b)) + t) rfl rfl (m_ix_of (by simp only [nI, Int32.ofNat_add, Int32.ofNat_mul] <;> rfl) (by omega) (by omega)) ?_
  rw [hj.2.2.2.2.1 a b t ha hb ht]
  refine Sp.iret rfl (Or.inr ⟨rfl, m_b2_01 _⟩) ?_
  exact hq
def d_set (ro : Nat → Int32) (a b t : Nat) (v : Int32) : Nat → Int32 := upd (upd ro (512 * a + 64 * b + t) v) (512 * b + 64 * a + t) v
theorem d_setT {X : mX} {C S : Nat} {Q : Outcome → mM → Prop} {w : mWd} {a b t : Nat} {v : Int32} (ha : a < 8) (hb : b < 8) (ht : t < 64) (hv : v = 0 ∨ v = 1) (hq : Q (.returned none) (mw (w.sa 12 (d_set (w.a 12) a b t v)))) : Sp X 58 0 0 C S (0, [(0, .ref 10), (1, .int (nI a)), (2, .int (nI b)), (3, .int (nI t)), (4, .int (v))], []) (mw w) Q := by
  refine Sp.go 1 (g := (1, [(0, .ref 10), (1, .int (nI a)), (2, .int (nI b)), (3, .int (nI t)), (4, .int (v))], [.ref 10])) rfl ?_
  refine Sp.get (v := .ref 12) rfl rfl rfl ?_
  refine Sp.go 10 (g := (18, [(0, .ref 10), (1, .int (nI a)), (2, .int (nI b)), (3, .int (nI t)), (4, .int (v))], [.int (v), .int (((512 * (nI a)) + (64 * (nI b))) + (nI t)), .ref 12])) rfl ?_
  refine Sp.pa12 (j := ((512 * a) + (64 * b)) + t) rfl (m_ix_of (by simp only [nI, Int32.ofNat_add, Int32.ofNat_mul] <;> rfl) (by omega) (by omega)) hv ?_
  refine Sp.go 1 (g := (20, [(0, .ref 10), (1, .int (nI a)), (2, .int (nI b)), (3, .int (nI t)), (4, .int (v))], [.ref 10])) rfl ?_
  refine Sp.get (v := .ref 12) rfl rfl rfl ?_
  refine Sp.go 10 (g := (37, [(0, .ref 10), (1, .int (nI a)), (2, .int (nI b)), (3, .int (nI t)), (4, .int (v))], [.int (v), .int (((512 * (nI b)) + (64 * (nI a))) + (nI t)), .ref 12])) rfl ?_
  refine Sp.pa12 (j := ((512 * b) + (64 * a)) + t) rfl (m_ix_of (by simp only [nI, Int32.ofNat_add, Int32.ofNat_mul] <;> rfl) (by omega) (by omega)) hv ?_
  refine Sp.wd (w' := w.sa 12 (upd (upd (w.a 12) (((512 * a) + (64 * b)) + t) (v)) (((512 * b) + (64 * a)) + t) (v))) (mWd.sa_sa ..) ?_
  refine Sp.vret rfl rfl ?_
  exact hq
theorem d_goes {X : mX} {C S : Nat} {Q : Outcome → mM → Prop} {w : mWd} {A : aS} (ho : a_ok A) (hj : JR0 w A) {h t a b : Nat} (hh : h < A.P) (ht : t < 64) (ha : a < 8) (hb : b < 8) (hq : Q (.returned (some (.int (m_b2 (a_goes A h t a b))))) (mw w)) : Sp X 59 0 0 C S (0, [(0, .ref 10), (1, .int (nI h)), (2, .int (nI t)), (3, .int (nI a)), (4, .int (nI b))], []) (mw w) Q := by
  have h32 := ho.2.2.1
  have hb4 := ho.2.2.2.2 h hh
  have hn1 := hb4.2.2.2 t (by omega)
  have hn2 := hb4.2.2.2 (t + 1) (by omega)
  refine Sp.go 2 (g := (2, [(0, .ref 10), (1, .int (nI h)), (2, .int (nI t)), (3, .int (nI a)), (4, .int (nI b))], [.ref 10, .int (nI t)])) rfl ?_
  refine Sp.get (v := .ref 17) rfl rfl rfl ?_
  refine Sp.go 1 (g := (6, [(0, .ref 10), (1, .int (nI h)), (2, .int (nI t)), (3, .int (nI a)), (4, .int (nI b))], [.int (nI h), .ref 17, .int (nI t)])) rfl ?_
  refine Sp.iald (f := w.a 17) (j := h) rfl rfl (m_ix_of (by simp only [nI, Int32.ofNat_add, Int32.ofNat_mul] <;> rfl) (by omega) (by omega)) ?_
  rw [(hj.2.2.2.2.2.1 h hh).2.2.2.2.1]
  refine Sp.icmp rfl (fun (h1 : (nI t : Int32) < (nI (A.at h) : Int32)) => ?_) (fun (h1 : ¬ ((nI t : Int32) < (nI (A.at h) : Int32))) => ?_)
  · skip
    refine Sp.go 1 (g := (58, [(0, .ref 10), (1, .int (nI h)), (2, .int (nI t)), (3, .int (nI a)), (4, .int (nI b))], [.int 0])) rfl ?_
    refine Sp.iret rfl (Or.inr ⟨rfl, Or.inl rfl⟩) ?_
    rw [show a_goes A h t a b = false by rw [nI_lt' (by omega) (by omega)] at h1; simp [a_goes]; omega] at hq; exact hq
  · skip
    refine Sp.go 2 (g := (12, [(0, .ref 10), (1, .int (nI h)), (2, .int (nI t)), (3, .int (nI a)), (4, .int (nI b))], [.ref 10, .int (nI t)])) rfl ?_
    refine Sp.get (v := .ref 18) rfl rfl rfl ?_
    refine Sp.go 1 (g := (16, [(0, .ref 10), (1, .int (nI h)), (2, .int (nI t)), (3, .int (nI a)), (4, .int (nI b))], [.int (nI h), .ref 18, .int (nI t)])) rfl ?_
    refine Sp.iald (f := w.a 18) (j := h) rfl rfl (m_ix_of (by simp only [nI, Int32.ofNat_add, Int32.ofNat_mul] <;> rfl) (by omega) (by omega)) ?_
    rw [(hj.2.2.2.2.2.1 h hh).2.2.2.2.2.1]
    refine Sp.icmp rfl (fun (h2 : (nI (A.la h) : Int32) ≤ (nI t : Int32)) => ?_) (fun (h2 : ¬ ((nI (A.la h) : Int32) ≤ (nI t : Int32))) => ?_)
    · skip
      refine Sp.go 1 (g := (58, [(0, .ref 10), (1, .int (nI h)), (2, .int (nI t)), (3, .int (nI a)), (4, .int (nI b))], [.int 0])) rfl ?_
      refine Sp.iret rfl (Or.inr ⟨rfl, Or.inl rfl⟩) ?_
      rw [show a_goes A h t a b = false by rw [nI_le' (by omega) (by omega)] at h2; simp [a_goes]; omega] at hq; exact hq
    · skip
      refine Sp.go 1 (g := (21, [(0, .ref 10), (1, .int (nI h)), (2, .int (nI t)), (3, .int (nI a)), (4, .int (nI b))], [.ref 10])) rfl ?_
      refine Sp.get (v := .ref 19) rfl rfl rfl ?_
      refine Sp.go 5 (g := (30, [(0, .ref 10), (1, .int (nI h)), (2, .int (nI t)), (3, .int (nI a)), (4, .int (nI b))], [.int ((65 * (nI h)) + (nI t)), .ref 19])) rfl ?_
      refine Sp.iald (f := w.a 19) (j := (65 * h) + t) rfl rfl (m_ix_of (by simp only [nI, Int32.ofNat_add, Int32.ofNat_mul] <;> rfl) (by omega) (by omega)) ?_
      rw [(hj.2.2.2.2.2.1 h hh).2.2.2.2.2.2 t (by omega)]
      refine Sp.go 1 (g := (32, [(0, .ref 10), (1, .int (nI h)), (2, .int (nI t)), (3, .int (nI a)), (4, .int (nI b))], [.int (nI a), .int (nI (A.nd h t))])) rfl ?_
      refine Sp.icmp rfl (fun (h3 : ¬ (nI (A.nd h t) : Int32) = (nI a : Int32)) => ?_) (fun (h3 : ¬ (¬ (nI (A.nd h t) : Int32) = (nI a : Int32))) => ?_)
      · skip
        refine Sp.go 1 (g := (58, [(0, .ref 10), (1, .int (nI h)), (2, .int (nI t)), (3, .int (nI a)), (4, .int (nI b))], [.int 0])) rfl ?_
        refine Sp.iret rfl (Or.inr ⟨rfl, Or.inl rfl⟩) ?_
        rw [show a_goes A h t a b = false by rw [nI_inj (by omega) (by omega)] at h3; simp [a_goes, h3]] at hq; exact hq
      · skip
        refine Sp.go 1 (g := (36, [(0, .ref 10), (1, .int (nI h)), (2, .int (nI t)), (3, .int (nI a)), (4, .int (nI b))], [.ref 10])) rfl ?_
        refine Sp.get (v := .ref 19) rfl rfl rfl ?_
        refine Sp.go 7 (g := (47, [(0, .ref 10), (1, .int (nI h)), (2, .int (nI t)), (3, .int (nI a)), (4, .int (nI b))], [.int (((65 * (nI h)) + (nI t)) + 1), .ref 19])) rfl ?_
        refine Sp.iald (f := w.a 19) (j := ((65 * h) + t) + 1) rfl rfl (m_ix_of (by simp only [nI, Int32.ofNat_add, Int32.ofNat_mul] <;> rfl) (by omega) (by omega)) ?_
        rw [show 65 * h + t + 1 = 65 * h + (t + 1) from rfl, (hj.2.2.2.2.2.1 h hh).2.2.2.2.2.2 (t + 1) (by omega)]
        refine Sp.go 1 (g := (50, [(0, .ref 10), (1, .int (nI h)), (2, .int (nI t)), (3, .int (nI a)), (4, .int (nI b))], [.int (nI b), .int (nI (A.nd h (t + 1)))])) rfl ?_
        refine Sp.icmp rfl (fun (h4 : ¬ (nI (A.nd h (t + 1)) : Int32) = (nI b : Int32)) => ?_) (fun (h4 : ¬ (¬ (nI (A.nd h (t + 1)) : Int32) = (nI b : Int32))) => ?_)
        · skip
          refine Sp.go 1 (g := (58, [(0, .ref 10), (1, .int (nI h)), (2, .int (nI t)), (3, .int (nI a)), (4, .int (nI b))], [.int 0])) rfl ?_
          refine Sp.iret rfl (Or.inr ⟨rfl, Or.inl rfl⟩) ?_
          rw [show a_goes A h t a b = false by rw [nI_inj (by omega) (by omega)] at h4; simp [a_goes, h4]] at hq; exact hq
        · skip
          refine Sp.go 2 (g := (58, [(0, .ref 10), (1, .int (nI h)), (2, .int (nI t)), (3, .int (nI a)), (4, .int (nI b))], [.int 1])) rfl ?_
          refine Sp.iret rfl (Or.inr ⟨rfl, Or.inr rfl⟩) ?_
          rw [show a_goes A h t a b = true by rw [nI_lt' (by omega) (by omega)] at h1; rw [nI_le' (by omega) (by omega)] at h2; rw [Classical.not_not, nI_inj (by omega) (by omega)] at h3 h4; simp [a_goes, h3, h4]; omega] at hq; exact hq
theorem d_used_loop {X : mX} {C S : Nat} {Q : Outcome → mM → Prop} {w : mWd} {A : aS} (ho : a_ok A) (hj : JR0 w A) {t a b : Nat} (ht : t < 64) (ha : a < 8) (hb : b < 8) : ∀ (d h c : Nat), h + d = A.P → c = g_cnt (fun h => a_goes A h t a b) h → Q (.returned (some (.int (nI (a_used A t a b))))) (mw w) → Sp X 60 1 24 C S (6, [(5, .int (nI h)), (4, .int (nI c)), (0, .ref 10), (1, .int (nI t)), (2, .int (nI a)), (3, .int (nI b))], []) (mw w) Q := by
  have h32 := ho.2.2.1
  intro d
  induction d with
  | zero =>
    intro h c hh hc hq
    refine Sp.go 2 (g := (9, [(5, .int (nI h)), (4, .int (nI c)), (0, .ref 10), (1, .int (nI t)), (2, .int (nI a)), (3, .int (nI b))], [.ref 10, .int (nI h)])) rfl ?_
    refine Sp.get (v := .int (nI (A.P))) rfl rfl (by rw [← hj.2.2.1]; rfl) ?_
    refine Sp.icmp rfl (fun u1 => ?_) (fun u1 => absurd ((nI_le' (by omega) (by omega)).mpr (by omega)) u1)
    refine Sp.go 1 (g := (46, [(5, .int (nI h)), (4, .int (nI c)), (0, .ref 10), (1, .int (nI t)), (2, .int (nI a)), (3, .int (nI b))], [.int (nI c)])) rfl ?_
    refine Sp.iret rfl (Or.inl rfl) ?_
    rw [hc, show h = A.P by omega]; exact hq
  | succ d ih =>
    intro h c hh hc hq
    have hc32 : c ≤ h := by rw [hc]; exact g_cnt_le _ _
    refine Sp.go 2 (g := (9, [(5, .int (nI h)), (4, .int (nI c)), (0, .ref 10), (1, .int (nI t)), (2, .int (nI a)), (3, .int (nI b))], [.ref 10, .int (nI h)])) rfl ?_
    refine Sp.get (v := .int (nI (A.P))) rfl rfl (by rw [← hj.2.2.1]; rfl) ?_
    refine Sp.icmp rfl (fun u1 => absurd u1 (fun z => absurd ((nI_le' (by omega) (by omega)).mp z) (by omega))) (fun u1 => ?_)
    refine Sp.go 5 (g := (21, [(5, .int (nI h)), (4, .int (nI c)), (0, .ref 10), (1, .int (nI t)), (2, .int (nI a)), (3, .int (nI b))], [.int (nI b), .int (nI a), .int (nI t), .int (nI h), .ref 10])) rfl ?_
    refine Sp.vr (some (.int (m_b2 (a_goes A h t a b)))) (mw (w)) (k' := 59) (F' := 0) (N' := 0) (C' := 0) (S' := 0) (vs := [.int (nI h), .int (nI t), .int (nI a), .int (nI b)]) (st := []) rfl rfl rfl rfl (Nat.le_of_ble_eq_true rfl) (Nat.le_of_ble_eq_true rfl) (by decide) (by decide) (Nat.zero_le _) (Nat.zero_le _) (fun Q' h => d_goes ho hj (by omega) (by omega) (by omega) (by omega) h) ?_
    refine Sp.ifb rfl (fun h2 => ?_) (fun h2 => ?_)
    · skip
      refine Sp.go 4 (g := (6, [(5, .int (nI h + 1)), (4, .int (nI c)), (0, .ref 10), (1, .int (nI t)), (2, .int (nI a)), (3, .int (nI b))], [])) rfl ?_
      rw [show nI h + 1 = nI (h + 1) from (nI_succ h).symm]
      refine ih (h + 1) _ (by omega) ?_ hq
      simp only [g_cnt, ← hc, h2]; rfl
    · skip
      refine Sp.go 7 (g := (6, [(5, .int (nI h + 1)), (4, .int ((nI c) + 1)), (0, .ref 10), (1, .int (nI t)), (2, .int (nI a)), (3, .int (nI b))], [])) rfl ?_
      rw [show nI c + 1 = nI (c + 1) from (nI_succ c).symm]
      rw [show nI h + 1 = nI (h + 1) from (nI_succ h).symm]
      refine ih (h + 1) _ (by omega) ?_ hq
      simp only [g_cnt, ← hc, h2]; rfl
theorem d_used {X : mX} {C S : Nat} {Q : Outcome → mM → Prop} {w : mWd} {A : aS} (ho : a_ok A) (hj : JR0 w A) {t a b : Nat} (ht : t < 64) (ha : a < 8) (hb : b < 8) (hq : Q (.returned (some (.int (nI (a_used A t a b))))) (mw w)) : Sp X 60 1 24 C S (0, [(0, .ref 10), (1, .int (nI t)), (2, .int (nI a)), (3, .int (nI b))], []) (mw w) Q := by
  refine Sp.go 4 (g := (6, [(5, .int 0), (4, .int 0), (0, .ref 10), (1, .int (nI t)), (2, .int (nI a)), (3, .int (nI b))], [])) rfl ?_
  exact d_used_loop ho hj ht ha hb A.P 0 0 (by omega) rfl hq
theorem d_fr1 {A : aS} {t a b : Nat} (ha : a < 8) (hb : b < 8) (e : nI a = nI b) (hp : ∀ c, A.pl a = some c → c ≤ 4) (hu : a_used A t a a ≤ 32) (h : a_places (A.pl a) ≤ nI (a_used A t a a)) : a_fr A t a b = false := by
  have e := (nI_inj (by omega) (by omega)).mp e
  subst e
  simp only [a_fr, if_true]
  cases hc : A.pl a with
  | none => rfl
  | some c =>
    rw [hc] at h
    have := hp c hc
    have h2 : nI c ≤ nI (a_used A t a a) := h
    rw [nI_le' (by omega) (by omega)] at h2
    simp; omega
theorem d_fr2 {A : aS} {t a b : Nat} (ha : a < 8) (hb : b < 8) (e : nI a = nI b) (hp : ∀ c, A.pl a = some c → c ≤ 4) (hu : a_used A t a a ≤ 32) (h : ¬ a_places (A.pl a) ≤ nI (a_used A t a a)) : a_fr A t a b = true := by
  have e := (nI_inj (by omega) (by omega)).mp e
  subst e
  simp only [a_fr, if_true]
  cases hc : A.pl a with
  | none =>
    rw [hc] at h
    refine absurd ?_ h
    show (-1 : Int32) ≤ nI (a_used A t a a)
    rw [Int32.le_iff_toInt_le, nI_toInt (by omega)]
    have : (-1 : Int32).toInt = -1 := by decide
    omega
  | some c =>
    rw [hc] at h
    have := hp c hc
    have h2 : ¬ nI c ≤ nI (a_used A t a a) := h
    rw [nI_le' (by omega) (by omega)] at h2
    simp; omega
theorem d_isFree {X : mX} {C S : Nat} {Q : Outcome → mM → Prop} {w : mWd} {A : aS} (ho : a_ok A) (hj : JR0 w A) {t a b : Nat} (ht : t < 64) (ha : a < 8) (hb : b < 8) (hq : Q (.returned (some (.int (m_b2 (a_fr A t a b))))) (mw w)) : Sp X 61 2 49 C S (0, [(0, .ref 10), (1, .int (nI t)), (2, .int (nI a)), (3, .int (nI b))], []) (mw w) Q := by
  have hu := a_used_le A t a a ho.2.2.1
  have hu2 := a_used_le A t a b ho.2.2.1
  refine Sp.go 2 (g := (2, [(0, .ref 10), (1, .int (nI t)), (2, .int (nI a)), (3, .int (nI b))], [.int (nI b), .int (nI a)])) rfl ?_
  refine Sp.icmp rfl (fun (h1 : ¬ (nI a : Int32) = (nI b : Int32)) => ?_) (fun (h1 : ¬ (¬ (nI a : Int32) = (nI b : Int32))) => ?_)
  · skip
    refine Sp.go 4 (g := (33, [(0, .ref 10), (1, .int (nI t)), (2, .int (nI a)), (3, .int (nI b))], [.int (nI t), .int (nI b), .int (nI a), .ref 10])) rfl ?_
    refine Sp.vr (some (.int (m_b2 (A.op a b t)))) (mw (w)) (k' := 57) (F' := 0) (N' := 0) (C' := 0) (S' := 0) (vs := [.int (nI a), .int (nI b), .int (nI t)]) (st := []) rfl rfl rfl rfl (Nat.le_of_ble_eq_true rfl) (Nat.le_of_ble_eq_true rfl) (by decide) (by decide) (Nat.zero_le _) (Nat.zero_le _) (fun Q' h => d_isOpen ho hj (by omega) (by omega) (by omega) h) ?_
    refine Sp.ifb rfl (fun h2 => ?_) (fun h2 => ?_)
    · skip
      refine Sp.go 1 (g := (54, [(0, .ref 10), (1, .int (nI t)), (2, .int (nI a)), (3, .int (nI b))], [.int 0])) rfl ?_
      refine Sp.iret rfl (Or.inr ⟨rfl, Or.inl rfl⟩) ?_
      rw [show a_fr A t a b = false by rw [nI_inj (by omega) (by omega)] at h1; simp [a_fr, h1, h2]] at hq; exact hq
    · skip
      refine Sp.go 4 (g := (43, [(0, .ref 10), (1, .int (nI t)), (2, .int (nI a)), (3, .int (nI b))], [.int (nI b), .int (nI a), .int (nI t), .ref 10])) rfl ?_
      refine Sp.vr (some (.int (nI (a_used A t a b)))) (mw (w)) (k' := 60) (F' := 1) (N' := 24) (C' := 0) (S' := 0) (vs := [.int (nI t), .int (nI a), .int (nI b)]) (st := []) rfl rfl rfl rfl (Nat.le_of_ble_eq_true rfl) (Nat.le_of_ble_eq_true rfl) (by decide) (by decide) (Nat.zero_le _) (Nat.zero_le _) (fun Q' h => d_used ho hj (by omega) (by omega) (by omega) h) ?_
      refine Sp.if rfl (fun (h3 : ¬ (nI (a_used A t a b) : Int32) = (0 : Int32)) => ?_) (fun (h3 : ¬ (¬ (nI (a_used A t a b) : Int32) = (0 : Int32))) => ?_)
      · skip
        refine Sp.go 1 (g := (54, [(0, .ref 10), (1, .int (nI t)), (2, .int (nI a)), (3, .int (nI b))], [.int 0])) rfl ?_
        refine Sp.iret rfl (Or.inr ⟨rfl, Or.inl rfl⟩) ?_
        rw [show a_fr A t a b = false by rw [nI_inj (by omega) (by omega)] at h1; simp [a_fr, h1, h2, show ¬ a_used A t a b = 0 from fun z => h3 (by rw [z]; rfl)]] at hq; exact hq
      · skip
        refine Sp.go 2 (g := (54, [(0, .ref 10), (1, .int (nI t)), (2, .int (nI a)), (3, .int (nI b))], [.int 1])) rfl ?_
        refine Sp.iret rfl (Or.inr ⟨rfl, Or.inr rfl⟩) ?_
        rw [show a_fr A t a b = true by rw [nI_inj (by omega) (by omega)] at h1; simp [a_fr, h1, h2, show a_used A t a b = 0 from (nI_inj (b := 0) (by omega) (by omega)).mp (Classical.not_not.mp h3)]] at hq; exact hq
  · skip
    refine Sp.go 4 (g := (9, [(0, .ref 10), (1, .int (nI t)), (2, .int (nI a)), (3, .int (nI b))], [.int (nI a), .int (nI a), .int (nI t), .ref 10])) rfl ?_
    refine Sp.vr (some (.int (nI (a_used A t a a)))) (mw (w)) (k' := 60) (F' := 1) (N' := 24) (C' := 0) (S' := 0) (vs := [.int (nI t), .int (nI a), .int (nI a)]) (st := []) rfl rfl rfl rfl (Nat.le_of_ble_eq_true rfl) (Nat.le_of_ble_eq_true rfl) (by decide) (by decide) (Nat.zero_le _) (Nat.zero_le _) (fun Q' h => d_used ho hj (by omega) (by omega) (by omega) h) ?_
    refine Sp.go 1 (g := (13, [(0, .ref 10), (1, .int (nI t)), (2, .int (nI a)), (3, .int (nI b))], [.ref 10, .int (nI (a_used A t a a))])) rfl ?_
    refine Sp.get (v := .ref 11) rfl rfl rfl ?_
    refine Sp.go 1 (g := (17, [(0, .ref 10), (1, .int (nI t)), (2, .int (nI a)), (3, .int (nI b))], [.int (nI a), .ref 11, .int (nI (a_used A t a a))])) rfl ?_
    refine Sp.iald (f := w.a 11) (j := a) rfl rfl (m_ix_of (by simp only [nI, Int32.ofNat_add, Int32.ofNat_mul] <;> rfl) (by omega) (by omega)) ?_
    rw [hj.2.2.2.1 a ha]
    refine Sp.icmp rfl (fun (h4 : (a_places (A.pl a) : Int32) ≤ (nI (a_used A t a a) : Int32)) => ?_) (fun (h4 : ¬ ((a_places (A.pl a) : Int32) ≤ (nI (a_used A t a a) : Int32))) => ?_)
    · skip
      refine Sp.go 2 (g := (54, [(0, .ref 10), (1, .int (nI t)), (2, .int (nI a)), (3, .int (nI b))], [.int 0])) rfl ?_
      refine Sp.iret rfl (Or.inr ⟨rfl, Or.inl rfl⟩) ?_
      rw [d_fr1 ha hb (Classical.not_not.mp h1) (fun c hc => ho.2.2.2.1 a c hc) hu h4] at hq; exact hq
    · skip
      refine Sp.go 2 (g := (54, [(0, .ref 10), (1, .int (nI t)), (2, .int (nI a)), (3, .int (nI b))], [.int 1])) rfl ?_
      refine Sp.iret rfl (Or.inr ⟨rfl, Or.inr rfl⟩) ?_
      rw [d_fr2 ha hb (Classical.not_not.mp h1) (fun c hc => ho.2.2.2.1 a c hc) hu h4] at hq; exact hq
end
section
/-! The reference: looking back, best, lay. Rows laid by wip/gen/model2.py. -/
theorem d_lt {a b : Nat} (ha : a < 2 ^ 31) (hb : b < 2 ^ 31) (h : ¬ nI a ≤ nI b) : b < a := by rw [nI_le' ha hb] at h; omega
theorem d_nlt {a b : Nat} (ha : a < 2 ^ 31) (hb : b < 2 ^ 31) (h : nI a ≤ nI b) : ¬ b < a := by rw [nI_le' ha hb] at h; omega
theorem g_E_99 (fr : Nat → Nat → Nat → Bool) (g : Nat) (d n : Nat) (hd : d ≤ 64) : g_E fr g d n ≤ 99 := by
  rcases g_E_at fr g d n hd with h | ⟨_, h, _⟩ <;> omega
/-- the row of the tick t in the reference's table -/
def d_Et (fr : Nat → Nat → Nat → Bool) (g t : Nat) (E : Nat → Int32) : Prop := ∀ n, n < 8 → E (8 * t + n) = nI (g_E fr g (64 - t) n)
theorem d_Et.up {fr : Nat → Nat → Nat → Bool} {g t : Nat} {E : Nat → Int32} (h : d_Et fr g t E) {j : Nat} {x : Int32} (hj : ∀ n, n < 8 → 8 * t + n ≠ j) : d_Et fr g t (upd E j x) := fun n hn => by
  show upd E j x (8 * t + n) = _
  simp only [upd, if_neg (hj n hn)]
  exact h n hn
theorem JR0.e {w : mWd} {A : aS} {E : Nat → Int32} (h : JR0 w A) : JR0 (w.sa 21 E) A := h
theorem d_lbD {X : mX} {C S : Nat} {Q : Outcome → mM → Prop} {w : mWd} {A : aS} (ho : a_ok A) (hj : JR0 w A) {g : Nat} (hg : g < 8) {t n : Nat} {v2 : Int32} (ht : t < 64) (hn : n < 8) (hng : ¬ n = g) (hE : ∀ m, m < 8 → w.a 21 (8 * t + 8 + m) = nI (g_E (a_fr A) g (63 - t) m)) : ∀ (d m lv : Nat), m + d = 8 → lv ≤ 99 → Sp X 62 3 72 C S (135, [(5, .int (nI (g_min (g_E (a_fr A) g (63 - t)) (a_fr A t n) (List.range' m d) lv))), (4, .int (nI n)), (3, .int (nI t)), (0, .ref 10), (1, .int (nI g)), (2, .int (v2))], []) (mw w) Q → Sp X 62 3 72 C S (71, [(6, .int (nI m)), (5, .int (nI lv)), (4, .int (nI n)), (3, .int (nI t)), (0, .ref 10), (1, .int (nI g)), (2, .int (v2))], []) (mw w) Q := by
  intro d
  induction d with
  | zero =>
    intro m lv hm hlv kk
    refine Sp.go 2 (g := (75, [(6, .int (nI m)), (5, .int (nI lv)), (4, .int (nI n)), (3, .int (nI t)), (0, .ref 10), (1, .int (nI g)), (2, .int (v2))], [.int 8, .int (nI m)])) rfl ?_
    refine Sp.icmp rfl (fun u1 => ?_) (fun u1 => absurd ((nI_le' (a := 8) (b := m) (by omega) (by omega)).mpr (by omega)) u1)
    refine Sp.lsub [1, 2, 3, 4, 5, 6] (ls' := [(5, .int (nI lv)), (4, .int (nI n)), (3, .int (nI t)), (0, .ref 10), (1, .int (nI g)), (2, .int (v2))]) rfl ?_
    exact kk
  | succ d ih =>
    intro m lv hm hlv kk
    have hf99 : g_E (a_fr A) g (63 - t) m ≤ 99 := g_E_99 _ _ _ _ (by omega)
    rw [List.range'_succ] at kk
    simp only [g_min, List.foldl_cons] at kk
    refine Sp.go 2 (g := (75, [(6, .int (nI m)), (5, .int (nI lv)), (4, .int (nI n)), (3, .int (nI t)), (0, .ref 10), (1, .int (nI g)), (2, .int (v2))], [.int 8, .int (nI m)])) rfl ?_
    refine Sp.icmp rfl (fun u1 => absurd u1 (fun q => absurd ((nI_le' (a := 8) (b := m) (by omega) (by omega)).mp q) (by omega))) (fun u1 => ?_)
    refine Sp.go 2 (g := (81, [(6, .int (nI m)), (5, .int (nI lv)), (4, .int (nI n)), (3, .int (nI t)), (0, .ref 10), (1, .int (nI g)), (2, .int (v2))], [.int (nI g), .int (nI n)])) rfl ?_
    refine Sp.icmp rfl (fun u2 => absurd u2 (fun z => hng ((nI_inj (by omega) (by omega)).mp z))) (fun u2 => ?_)
    refine Sp.go 1 (g := (85, [(6, .int (nI m)), (5, .int (nI lv)), (4, .int (nI n)), (3, .int (nI t)), (0, .ref 10), (1, .int (nI g)), (2, .int (v2))], [.ref 10])) rfl ?_
    refine Sp.get (v := .ref 21) rfl rfl rfl ?_
    refine Sp.go 7 (g := (98, [(6, .int (nI m)), (5, .int (nI lv)), (4, .int (nI n)), (3, .int (nI t)), (0, .ref 10), (1, .int (nI g)), (2, .int (v2))], [.int (((8 * (nI t)) + 8) + (nI m)), .ref 21])) rfl ?_
    refine Sp.iald (f := w.a 21) (j := ((8 * t) + 8) + m) rfl rfl (m_ix_of (by simp only [nI, Int32.ofNat_add, Int32.ofNat_mul] <;> rfl) (by omega) (by omega)) ?_
    rw [hE m (by omega)]
    refine Sp.go 3 (g := (105, [(7, .int (nI (g_E (a_fr A) g (63 - t) m))), (6, .int (nI m)), (5, .int (nI lv)), (4, .int (nI n)), (3, .int (nI t)), (0, .ref 10), (1, .int (nI g)), (2, .int (v2))], [.int (nI lv), .int (nI (g_E (a_fr A) g (63 - t) m))])) rfl ?_
    refine Sp.icmp rfl (fun (h3 : (nI lv : Int32) ≤ (nI (g_E (a_fr A) g (63 - t) m) : Int32)) => ?_) (fun (h3 : ¬ ((nI lv : Int32) ≤ (nI (g_E (a_fr A) g (63 - t) m) : Int32))) => ?_)
    · skip
      refine Sp.go 4 (g := (71, [(6, .int (nI m + 1)), (5, .int (nI lv)), (7, .int (nI (g_E (a_fr A) g (63 - t) m))), (4, .int (nI n)), (3, .int (nI t)), (0, .ref 10), (1, .int (nI g)), (2, .int (v2))], [])) rfl ?_
      refine Sp.lsub [0, 1, 3, 4, 5, 6, 7] (ls' := [(6, .int (nI m + 1)), (5, .int (nI lv)), (4, .int (nI n)), (3, .int (nI t)), (0, .ref 10), (1, .int (nI g)), (2, .int (v2))]) rfl ?_
      rw [show nI m + 1 = nI (m + 1) from (nI_succ m).symm]
      refine ih (m + 1) _ (by omega) (by omega) ?_
      first | (rw [if_pos ⟨d_lt (by omega) (by omega) h3, h4⟩] at kk; exact kk) | (rw [if_neg (fun z => d_nlt (by omega) (by omega) h3 z.1)] at kk; exact kk) | (rw [if_neg (fun z => absurd z.2 (by rw [h4]; decide))] at kk; exact kk)
    · skip
      refine Sp.go 4 (g := (114, [(7, .int (nI (g_E (a_fr A) g (63 - t) m))), (6, .int (nI m)), (5, .int (nI lv)), (4, .int (nI n)), (3, .int (nI t)), (0, .ref 10), (1, .int (nI g)), (2, .int (v2))], [.int (nI m), .int (nI n), .int (nI t), .ref 10])) rfl ?_
      refine Sp.vr (some (.int (m_b2 (a_fr A t n m)))) (mw (w)) (k' := 61) (F' := 2) (N' := 49) (C' := 0) (S' := 0) (vs := [.int (nI t), .int (nI n), .int (nI m)]) (st := []) rfl rfl rfl rfl (Nat.le_of_ble_eq_true rfl) (Nat.le_of_ble_eq_true rfl) (by decide) (by decide) (Nat.zero_le _) (Nat.zero_le _) (fun Q' h => d_isFree ho hj (by omega) (by omega) (by omega) h) ?_
      refine Sp.ifb rfl (fun h4 => ?_) (fun h4 => ?_)
      · skip
        refine Sp.go 4 (g := (71, [(6, .int (nI m + 1)), (5, .int (nI lv)), (7, .int (nI (g_E (a_fr A) g (63 - t) m))), (4, .int (nI n)), (3, .int (nI t)), (0, .ref 10), (1, .int (nI g)), (2, .int (v2))], [])) rfl ?_
        refine Sp.lsub [0, 1, 3, 4, 5, 6, 7] (ls' := [(6, .int (nI m + 1)), (5, .int (nI lv)), (4, .int (nI n)), (3, .int (nI t)), (0, .ref 10), (1, .int (nI g)), (2, .int (v2))]) rfl ?_
        rw [show nI m + 1 = nI (m + 1) from (nI_succ m).symm]
        refine ih (m + 1) _ (by omega) (by omega) ?_
        first | (rw [if_pos ⟨d_lt (by omega) (by omega) h3, h4⟩] at kk; exact kk) | (rw [if_neg (fun z => d_nlt (by omega) (by omega) h3 z.1)] at kk; exact kk) | (rw [if_neg (fun z => absurd z.2 (by rw [h4]; decide))] at kk; exact kk)
      · skip
        refine Sp.go 5 (g := (71, [(6, .int (nI m + 1)), (5, .int (nI (g_E (a_fr A) g (63 - t) m))), (7, .int (nI (g_E (a_fr A) g (63 - t) m))), (4, .int (nI n)), (3, .int (nI t)), (0, .ref 10), (1, .int (nI g)), (2, .int (v2))], [])) rfl ?_
        refine Sp.lsub [0, 1, 3, 4, 5, 6, 7] (ls' := [(6, .int (nI m + 1)), (5, .int (nI (g_E (a_fr A) g (63 - t) m))), (4, .int (nI n)), (3, .int (nI t)), (0, .ref 10), (1, .int (nI g)), (2, .int (v2))]) rfl ?_
        rw [show nI m + 1 = nI (m + 1) from (nI_succ m).symm]
        refine ih (m + 1) _ (by omega) (by omega) ?_
        first | (rw [if_pos ⟨d_lt (by omega) (by omega) h3, h4⟩] at kk; exact kk) | (rw [if_neg (fun z => d_nlt (by omega) (by omega) h3 z.1)] at kk; exact kk) | (rw [if_neg (fun z => absurd z.2 (by rw [h4]; decide))] at kk; exact kk)
theorem d_lbC {X : mX} {C S : Nat} {Q : Outcome → mM → Prop} {A : aS} (ho : a_ok A) {g : Nat} (hg : g < 8) {t : Nat} {v2 : Int32} (ht : t < 64) : ∀ (d n : Nat) (w : mWd), n + d = 8 → JR0 w A → (∀ t', t < t' → t' ≤ 64 → d_Et (a_fr A) g t' (w.a 21)) → (∀ j, j < n → w.a 21 (8 * t + j) = nI (g_E (a_fr A) g (64 - t) j)) → (∀ E, (∀ t', t ≤ t' → t' ≤ 64 → d_Et (a_fr A) g t' E) → Sp X 62 3 72 C S (155, [(3, .int (nI t)), (0, .ref 10), (1, .int (nI g)), (2, .int (v2))], []) (mw (w.sa 21 E)) Q) → Sp X 62 3 72 C S (47, [(4, .int (nI n)), (3, .int (nI t)), (0, .ref 10), (1, .int (nI g)), (2, .int (v2))], []) (mw w) Q := by
  intro d
  induction d with
  | zero =>
    intro n w hn hj hup hlo kk
    refine Sp.go 2 (g := (51, [(4, .int (nI n)), (3, .int (nI t)), (0, .ref 10), (1, .int (nI g)), (2, .int (v2))], [.int 8, .int (nI n)])) rfl ?_
    refine Sp.icmp rfl (fun u1 => ?_) (fun u1 => absurd ((nI_le' (a := 8) (b := n) (by omega) (by omega)).mpr (by omega)) u1)
    refine Sp.lsub [1, 2, 3, 4] (ls' := [(3, .int (nI t)), (0, .ref 10), (1, .int (nI g)), (2, .int (v2))]) rfl ?_
    have k2 := kk (w.a 21) (fun t' h1 h2 => ?_)
    · rw [mWd.sa_self] at k2; exact k2
    · rcases Nat.eq_or_lt_of_le h1 with e | e
      · subst e; exact fun j hj9 => hlo j (by omega)
      · exact hup t' e h2
  | succ d ih =>
    intro n w hn hj hup hlo kk
    have hE : ∀ m, m < 8 → w.a 21 (8 * t + 8 + m) = nI (g_E (a_fr A) g (63 - t) m) := fun m hm => by
      have h9 := hup (t + 1) (by omega) (by omega) m hm
      rw [show 8 * (t + 1) + m = 8 * t + 8 + m by omega, show 64 - (t + 1) = 63 - t by omega] at h9
      exact h9
    have hd : 64 - t = (63 - t) + 1 := by omega
    have fin : Sp X 62 3 72 C S (135, [(5, .int (nI (g_E (a_fr A) g (64 - t) n))), (4, .int (nI n)), (3, .int (nI t)), (0, .ref 10), (1, .int (nI g)), (2, .int (v2))], []) (mw w) Q := by
      refine Sp.go 1 (g := (136, [(5, .int (nI (g_E (a_fr A) g (64 - t) n))), (4, .int (nI n)), (3, .int (nI t)), (0, .ref 10), (1, .int (nI g)), (2, .int (v2))], [.ref 10])) rfl ?_
      refine Sp.get (v := .ref 21) rfl rfl rfl ?_
      refine Sp.go 6 (g := (148, [(5, .int (nI (g_E (a_fr A) g (64 - t) n))), (4, .int (nI n)), (3, .int (nI t)), (0, .ref 10), (1, .int (nI g)), (2, .int (v2))], [.int (nI (g_E (a_fr A) g (64 - t) n)), .int ((8 * (nI t)) + (nI n)), .ref 21])) rfl ?_
      refine Sp.pa21 (j := (8 * t) + n) rfl (m_ix_of (by simp only [nI, Int32.ofNat_add, Int32.ofNat_mul] <;> rfl) (by omega) (by omega)) ?_
      refine Sp.go 2 (g := (47, [(4, .int (nI n + 1)), (5, .int (nI (g_E (a_fr A) g (64 - t) n))), (3, .int (nI t)), (0, .ref 10), (1, .int (nI g)), (2, .int (v2))], [])) rfl ?_
      refine Sp.lsub [0, 2, 3, 4, 5] (ls' := [(4, .int (nI n + 1)), (3, .int (nI t)), (0, .ref 10), (1, .int (nI g)), (2, .int (v2))]) rfl ?_
      rw [show nI n + 1 = nI (n + 1) from (nI_succ n).symm]
      refine ih (n + 1) (w.sa 21 (upd (w.a 21) ((8 * t) + n) (nI (g_E (a_fr A) g (64 - t) n)))) (by omega) hj.e (fun t' h1 h2 => (hup t' h1 h2).up (fun j hj9 => by omega)) (fun j hj9 => ?_) (fun E hE9 => ?_)
      · show upd (w.a 21) (8 * t + n) _ (8 * t + j) = _
        by_cases e : j = n
        · subst e; simp [upd]
        · have e2 : ¬ 8 * t + j = 8 * t + n := by omega
          simp only [upd, if_neg e2]; exact hlo j (by omega)
      · rw [mWd.sa_sa]; exact kk E hE9
    refine Sp.go 2 (g := (51, [(4, .int (nI n)), (3, .int (nI t)), (0, .ref 10), (1, .int (nI g)), (2, .int (v2))], [.int 8, .int (nI n)])) rfl ?_
    refine Sp.icmp rfl (fun u1 => absurd u1 (fun q => absurd ((nI_le' (a := 8) (b := n) (by omega) (by omega)).mp q) (by omega))) (fun u1 => ?_)
    refine Sp.go 2 (g := (57, [(4, .int (nI n)), (3, .int (nI t)), (0, .ref 10), (1, .int (nI g)), (2, .int (v2))], [.int (nI g), .int (nI n)])) rfl ?_
    refine Sp.icmp rfl (fun (h2 : ¬ (nI n : Int32) = (nI g : Int32)) => ?_) (fun (h2 : ¬ (¬ (nI n : Int32) = (nI g : Int32))) => ?_)
    · skip
      refine Sp.go 4 (g := (71, [(6, .int 0), (5, .int 99), (4, .int (nI n)), (3, .int (nI t)), (0, .ref 10), (1, .int (nI g)), (2, .int (v2))], [])) rfl ?_
      have hng : ¬ n = g := fun z => h2 (by rw [z])
      refine d_lbD ho hj hg ht (by omega) hng hE 8 0 99 rfl (by omega) ?_
      rw [show g_E (a_fr A) g (64 - t) n = g_min (g_E (a_fr A) g (63 - t)) (a_fr A t n) (List.range' 0 8) 99 by rw [hd]; simp only [g_E, if_neg hng]; rw [show 63 - (63 - t) = t by omega, List.range_eq_range']] at fin
      exact fin
    · skip
      refine Sp.go 5 (g := (71, [(6, .int 0), (5, .int (nI t)), (4, .int (nI n)), (3, .int (nI t)), (0, .ref 10), (1, .int (nI g)), (2, .int (v2))], [])) rfl ?_
      have hng : n = g := (nI_inj (by omega) (by omega)).mp (Classical.not_not.mp h2)
      refine Sp.go 2 (g := (75, [(6, .int 0), (5, .int (nI t)), (4, .int (nI n)), (3, .int (nI t)), (0, .ref 10), (1, .int (nI g)), (2, .int (v2))], [.int 8, .int 0])) rfl ?_
      refine Sp.icmp rfl (fun u31 => absurd u31 (show ¬ (8 : Int32) ≤ 0 by decide)) (fun u31 => ?_)
      refine Sp.go 2 (g := (81, [(6, .int 0), (5, .int (nI t)), (4, .int (nI n)), (3, .int (nI t)), (0, .ref 10), (1, .int (nI g)), (2, .int (v2))], [.int (nI g), .int (nI n)])) rfl ?_
      refine Sp.icmp rfl (fun u32 => ?_) (fun u32 => absurd (show nI n = nI g by rw [hng]) u32)
      refine Sp.lsub [1, 2, 3, 4, 5, 6] (ls' := [(5, .int (nI t)), (4, .int (nI n)), (3, .int (nI t)), (0, .ref 10), (1, .int (nI g)), (2, .int (v2))]) rfl ?_
      rw [show g_E (a_fr A) g (64 - t) n = t by rw [hd]; simp only [g_E, if_pos hng]; omega] at fin
      exact fin
theorem d_lbB {X : mX} {C S : Nat} {Q : Outcome → mM → Prop} {A : aS} (ho : a_ok A) {g : Nat} (hg : g < 8) {s : Nat} : ∀ (d : Nat) (w : mWd), s + d ≤ 64 → JR0 w A → (∀ t, s + d ≤ t → t ≤ 64 → d_Et (a_fr A) g t (w.a 21)) → (∀ E, (∀ t, s ≤ t → t ≤ 64 → d_Et (a_fr A) g t E) → Q (.returned none) (mw (w.sa 21 E))) → Sp X 62 3 72 C S (39, [(3, .int (nI (s + d) - 1)), (0, .ref 10), (1, .int (nI g)), (2, .int (nI s))], []) (mw w) Q := by
  intro d
  induction d with
  | zero =>
    intro w hd hj hup kk
    refine Sp.go 2 (g := (41, [(3, .int (nI (s + 0) - 1)), (0, .ref 10), (1, .int (nI g)), (2, .int (nI s))], [.int (nI s), .int (nI (s + 0) - 1)])) rfl ?_
    refine Sp.icmp rfl (fun u1 => ?_) (fun u1 => absurd (f_lt0 (by omega)) u1)
    refine Sp.vret rfl rfl ?_
    have k2 := kk (w.a 21) (fun t h1 h2 => hup t (by omega) h2)
    rw [mWd.sa_self] at k2
    exact k2
  | succ d ih =>
    intro w hd hj hup kk
    rw [show nI (s + (d + 1)) - 1 = nI (s + d) from nI_pred (s + d)]
    refine Sp.go 2 (g := (41, [(3, .int (nI (s + d))), (0, .ref 10), (1, .int (nI g)), (2, .int (nI s))], [.int (nI s), .int (nI (s + d))])) rfl ?_
    refine Sp.icmp rfl (fun u1 => absurd u1 (f_nlt (by omega))) (fun u1 => ?_)
    refine Sp.go 2 (g := (47, [(4, .int 0), (3, .int (nI (s + d))), (0, .ref 10), (1, .int (nI g)), (2, .int (nI s))], [])) rfl ?_
    refine d_lbC ho hg (by omega) 8 0 w rfl hj (fun t' h1 h2 => hup t' (by omega) h2) (fun j hj9 => absurd hj9 (by omega)) (fun E hE => ?_)
    refine Sp.go 2 (g := (39, [(3, .int (nI (s + d) + (-1))), (0, .ref 10), (1, .int (nI g)), (2, .int (nI s))], [])) rfl ?_
    rw [nI_m1]
    refine ih (w.sa 21 E) (by omega) hj.e hE (fun E2 hE2 => ?_)
    rw [mWd.sa_sa]
    exact kk E2 hE2
theorem d_lbA {X : mX} {C S : Nat} {Q : Outcome → mM → Prop} {g : Nat} (hg : g < 8) {v2 : Int32} : ∀ (d n : Nat) (w : mWd), n + d = 8 → (∀ j, j < n → w.a 21 (512 + j) = nI (if j = g then 64 else 99)) → (∀ E, (∀ j, j < 8 → E (512 + j) = nI (if j = g then 64 else 99)) → Sp X 62 3 72 C S (36, [(0, .ref 10), (1, .int (nI g)), (2, .int (v2))], []) (mw (w.sa 21 E)) Q) → Sp X 62 3 72 C S (2, [(3, .int (nI n)), (0, .ref 10), (1, .int (nI g)), (2, .int (v2))], []) (mw w) Q := by
  intro d
  induction d with
  | zero =>
    intro n w hn hlo kk
    refine Sp.go 2 (g := (5, [(3, .int (nI n)), (0, .ref 10), (1, .int (nI g)), (2, .int (v2))], [.int 8, .int (nI n)])) rfl ?_
    refine Sp.icmp rfl (fun u1 => ?_) (fun u1 => absurd ((nI_le' (a := 8) (b := n) (by omega) (by omega)).mpr (by omega)) u1)
    refine Sp.lsub [1, 2, 3] (ls' := [(0, .ref 10), (1, .int (nI g)), (2, .int (v2))]) rfl ?_
    have k2 := kk (w.a 21) (fun j hj => hlo j (by omega))
    rw [mWd.sa_self] at k2
    exact k2
  | succ d ih =>
    intro n w hn hlo kk
    refine Sp.go 2 (g := (5, [(3, .int (nI n)), (0, .ref 10), (1, .int (nI g)), (2, .int (v2))], [.int 8, .int (nI n)])) rfl ?_
    refine Sp.icmp rfl (fun u1 => absurd u1 (fun q => absurd ((nI_le' (a := 8) (b := n) (by omega) (by omega)).mp q) (by omega))) (fun u1 => ?_)
    refine Sp.go 1 (g := (9, [(3, .int (nI n)), (0, .ref 10), (1, .int (nI g)), (2, .int (v2))], [.ref 10])) rfl ?_
    refine Sp.get (v := .ref 21) rfl rfl rfl ?_
    refine Sp.go 5 (g := (19, [(3, .int (nI n)), (0, .ref 10), (1, .int (nI g)), (2, .int (v2))], [.int (nI g), .int (nI n), .int (512 + (nI n)), .ref 21])) rfl ?_
    refine Sp.icmp rfl (fun (h2 : ¬ (nI n : Int32) = (nI g : Int32)) => ?_) (fun (h2 : ¬ (¬ (nI n : Int32) = (nI g : Int32))) => ?_)
    · skip
      refine Sp.go 1 (g := (29, [(3, .int (nI n)), (0, .ref 10), (1, .int (nI g)), (2, .int (v2))], [.int 99, .int (512 + (nI n)), .ref 21])) rfl ?_
      refine Sp.pa21 (j := 512 + n) rfl (m_ix_of (by simp only [nI, Int32.ofNat_add, Int32.ofNat_mul] <;> rfl) (by omega) (by omega)) ?_
      refine Sp.go 2 (g := (2, [(3, .int (nI n + 1)), (0, .ref 10), (1, .int (nI g)), (2, .int (v2))], [])) rfl ?_
      rw [show nI n + 1 = nI (n + 1) from (nI_succ n).symm]
      refine ih (n + 1) (w.sa 21 (upd (w.a 21) (512 + n) (99))) (by omega) (fun j hj => ?_) (fun E hE => by rw [mWd.sa_sa]; exact kk E hE)
      show upd (w.a 21) (512 + n) _ (512 + j) = _
      by_cases e : j = n
      · subst e
        simp only [upd, if_true]
        first | (rw [if_neg (fun z => h2 (by rw [z]))]; rfl) | (rw [if_pos ((nI_inj (by omega) (by omega)).mp (Classical.not_not.mp h2))]; rfl)
      · have e2 : ¬ 512 + j = 512 + n := by omega
        simp only [upd, if_neg e2]
        exact hlo j (by omega)
    · skip
      refine Sp.go 2 (g := (29, [(3, .int (nI n)), (0, .ref 10), (1, .int (nI g)), (2, .int (v2))], [.int 64, .int (512 + (nI n)), .ref 21])) rfl ?_
      refine Sp.pa21 (j := 512 + n) rfl (m_ix_of (by simp only [nI, Int32.ofNat_add, Int32.ofNat_mul] <;> rfl) (by omega) (by omega)) ?_
      refine Sp.go 2 (g := (2, [(3, .int (nI n + 1)), (0, .ref 10), (1, .int (nI g)), (2, .int (v2))], [])) rfl ?_
      rw [show nI n + 1 = nI (n + 1) from (nI_succ n).symm]
      refine ih (n + 1) (w.sa 21 (upd (w.a 21) (512 + n) (64))) (by omega) (fun j hj => ?_) (fun E hE => by rw [mWd.sa_sa]; exact kk E hE)
      show upd (w.a 21) (512 + n) _ (512 + j) = _
      by_cases e : j = n
      · subst e
        simp only [upd, if_true]
        first | (rw [if_neg (fun z => h2 (by rw [z]))]; rfl) | (rw [if_pos ((nI_inj (by omega) (by omega)).mp (Classical.not_not.mp h2))]; rfl)
      · have e2 : ¬ 512 + j = 512 + n := by omega
        simp only [upd, if_neg e2]
        exact hlo j (by omega)
theorem d_lookBack {X : mX} {C S : Nat} {Q : Outcome → mM → Prop} {w : mWd} {A : aS} (ho : a_ok A) (hj : JR0 w A) {g : Nat} (hg : g < 8) {s : Nat} (hs : s ≤ 64) (hq : ∀ E, (∀ t, s ≤ t → t ≤ 64 → d_Et (a_fr A) g t E) → Q (.returned none) (mw (w.sa 21 E))) : Sp X 62 3 72 C S (0, [(0, .ref 10), (1, .int (nI g)), (2, .int (nI s))], []) (mw w) Q := by
  refine Sp.go 2 (g := (2, [(3, .int 0), (0, .ref 10), (1, .int (nI g)), (2, .int (nI s))], [])) rfl ?_
  refine d_lbA hg 8 0 w rfl (fun j hj9 => absurd hj9 (by omega)) (fun E hE => ?_)
  refine Sp.go 2 (g := (39, [(3, .int 63), (0, .ref 10), (1, .int (nI g)), (2, .int (nI s))], [])) rfl ?_
  rw [show (63 : Int32) = nI (s + (64 - s)) - 1 by rw [show s + (64 - s) = 64 by omega]; rfl]
  refine d_lbB ho hg (64 - s) (w.sa 21 E) (by omega) hj.e (fun t h1 h2 => ?_) (fun E2 hE2 => by rw [mWd.sa_sa]; exact hq E2 hE2)
  have e : t = 64 := by omega
  subst e
  intro n hn
  show E (8 * 64 + n) = _
  rw [show 8 * 64 + n = 512 + n by omega, hE n hn]
  rfl
end
section
/-! The reference: best and lay. Rows laid by wip/gen/model3.py. -/
theorem g_has {fr : Nat → Nat → Nat → Bool} {g t e n : Nat} (ht : t < e) (he : e ≤ 64) (h : g_E fr g (64 - t) n = e) : ∃ m, m < 8 ∧ fr t n m = true ∧ g_E fr g (63 - t) m = e := by
  have hd : 64 - t = (63 - t) + 1 := by omega
  rw [hd] at h
  by_cases hn : n = g
  · simp only [g_E, if_pos hn] at h; omega
  · simp only [g_E, if_neg hn] at h
    obtain ⟨_, _, h3⟩ := g_min_spec (g_E fr g (63 - t)) (fr (63 - (63 - t)) n) (List.range 8) 99
    rw [h] at h3
    rcases h3 with h3 | ⟨m, hm, hf, h3⟩
    · omega
    · rw [show 63 - (63 - t) = t by omega] at hf
      exact ⟨m, List.mem_range.mp hm, hf, h3⟩
/-- a row that goes from s at the tick at the best way to g, till e -/
def g_W (fr : Nat → Nat → Nat → Bool) (g s at0 e : Nat) (r : Nat → Nat) : Prop := r at0 = s ∧ ∀ i, at0 ≤ i → i < e → r (i + 1) < 8 ∧ fr i (r i) (r (i + 1)) = true ∧ g_E fr g (63 - i) (r (i + 1)) = e ∧ ∀ m, m < r (i + 1) → ¬ (fr i (r i) m = true ∧ g_E fr g (63 - i) m = e)
def g_up (r : Nat → Nat) (i m : Nat) : Nat → Nat := fun j => if j = i then m else r j
theorem g_up_self (r : Nat → Nat) (i : Nat) : g_up r i (r i) = r := by
  funext j
  unfold g_up
  split
  · rename_i h; rw [h]
  · rfl
/-- the rows of nodes, with r in the row h -/
def d_row (W : Nat → Int32) (h : Nat) (r : Nat → Nat) : Nat → Int32 := fun j => if 65 * h ≤ j ∧ j < 65 * h + 65 then nI (r (j - 65 * h)) else W j
theorem d_row_self {W : Nat → Int32} {h : Nat} {r : Nat → Nat} (hr : ∀ i, i < 65 → W (65 * h + i) = nI (r i)) : d_row W h r = W := by
  funext j
  unfold d_row
  split
  · rename_i q
    have := hr (j - 65 * h) (by omega)
    rw [show 65 * h + (j - 65 * h) = j by omega] at this
    exact this.symm
  · rfl
theorem d_row_up {W : Nat → Int32} {h : Nat} {r : Nat → Nat} {i m : Nat} (hi : i < 65) : upd (d_row W h r) (65 * h + i) (nI m) = d_row W h (g_up r i m) := by
  funext j
  simp only [upd, d_row, g_up]
  by_cases e : j = 65 * h + i
  · rw [if_pos e, if_pos (by omega), if_pos (by omega)]
  · rw [if_neg e]
    split
    · rw [if_neg (by omega)]
    · rfl
theorem d_row_at {W : Nat → Int32} {h : Nat} {r : Nat → Nat} {i : Nat} (hi : i < 65) : d_row W h r (65 * h + i) = nI (r i) := by
  unfold d_row
  rw [if_pos (by omega), show 65 * h + i - 65 * h = i by omega]
theorem d_row_ne {W : Nat → Int32} {h h' : Nat} {r : Nat → Nat} {i : Nat} (hi : i < 65) (hh : h' ≠ h) : d_row W h r (65 * h' + i) = W (65 * h' + i) := by
  unfold d_row
  rw [if_neg (by omega)]
/-- the state with another row of nodes for h -/
def aS.nds (A : aS) (h : Nat) (r : Nat → Nat) : aS := (A.T, A.nc, A.P, A.pl, A.op, A.go, A.at, A.la, A.fa, fun h' => if h' = h then r else A.nd h')
theorem a_ok.nds {A : aS} (ho : a_ok A) {h : Nat} {r : Nat → Nat} (hr : ∀ i, i < 65 → r i < 8) : a_ok (A.nds h r) := by
  obtain ⟨h1, h2, h3, h4, h5⟩ := ho
  refine ⟨h1, h2, h3, h4, fun h' hh => ⟨(h5 h' hh).1, (h5 h' hh).2.1, (h5 h' hh).2.2.1, fun i hi => ?_⟩⟩
  show (if h' = h then r else A.nd h') i < 8
  split
  · exact hr i hi
  · exact (h5 h' hh).2.2.2 i hi
theorem JR0.nds {w : mWd} {A : aS} (hj : JR0 w A) {h : Nat} {r : Nat → Nat} (ho : a_ok A) (hs : h < A.P → r (A.at h) = A.nd h (A.at h)) : JR0 (w.sa 19 (d_row (w.a 19) h r)) (A.nds h r) := by
  obtain ⟨h1, h2, h3, h4, h5, h6, _⟩ := hj
  refine ⟨h1, h2, h3, h4, h5, fun h' hh => ?_, trivial⟩
  obtain ⟨k1, k2, k3, k4, k5, k6, k7⟩ := h6 h' hh
  refine ⟨k1, ?_, k3, k4, k5, k6, fun i hi => ?_⟩
  · show w.a 14 h' = nI ((if h' = h then r else A.nd h') (A.at h'))
    split
    · rename_i e; subst e; rw [hs hh]; exact k2
    · exact k2
  · show d_row (w.a 19) h r (65 * h' + i) = nI ((if h' = h then r else A.nd h') i)
    split
    · rename_i e; subst e; exact d_row_at hi
    · rename_i e; rw [d_row_ne hi e]; exact k7 i hi
theorem a_goes_nds {A : aS} {h h' t a b : Nat} {r : Nat → Nat} (hs : h' = h → A.la h ≤ t) : a_goes (A.nds h r) h' t a b = a_goes A h' t a b := by
  by_cases e : h' = h
  · have : A.la h' ≤ t := by rw [e]; exact hs e
    have e1 : ¬ t < A.la h' := by omega
    have e2 : ¬ t < (A.nds h r).la h' := e1
    simp [a_goes, e1, e2]
  · show (decide (A.at h' ≤ t) && (decide (t < A.la h') && (decide ((if h' = h then r else A.nd h') t = a) && decide ((if h' = h then r else A.nd h') (t + 1) = b)))) = _
    rw [if_neg e]; rfl
theorem a_fr_nds {A : aS} {h s : Nat} {r : Nat → Nat} (hs : h < A.P → A.la h ≤ s) {t : Nat} (ht : s ≤ t) (a b : Nat) : a_fr (A.nds h r) t a b = a_fr A t a b := by
  have hu : ∀ a b, a_used (A.nds h r) t a b = a_used A t a b := fun a b => g_cnt_congr _ (fun h' hh => a_goes_nds (fun e => Nat.le_trans (hs (by rw [← e]; exact hh)) ht))
  unfold a_fr
  rw [hu, hu]
  rfl
/-- what the search answers -/
def g_ans (e : Nat) : Int32 := if e = 99 then -1 else nI e
theorem d_best {X : mX} {C S : Nat} {Q : Outcome → mM → Prop} {w : mWd} {A : aS} (ho : a_ok A) (hj : JR0 w A) {g : Nat} (hg : g < 8) {a s : Nat} (ha : a < 8) (hs : s ≤ 64) (hq : ∀ E, (∀ t, s ≤ t → t ≤ 64 → d_Et (a_fr A) g t E) → Q (.returned (some (.int (g_ans (g_E (a_fr A) g (64 - s) a))))) (mw (w.sa 21 E))) : Sp X 63 4 99 C S (0, [(0, .ref 10), (1, .int (nI a)), (2, .int (nI g)), (3, .int (nI s))], []) (mw w) Q := by
  have h99 := g_E_99 (a_fr A) g (64 - s) a (by omega)
  refine Sp.go 3 (g := (3, [(0, .ref 10), (1, .int (nI a)), (2, .int (nI g)), (3, .int (nI s))], [.int (nI s), .int (nI g), .ref 10])) rfl ?_
  refine Sp.callV (Qc := fun o M' => ∃ (E : Nat → Int32), (∀ t, s ≤ t → t ≤ 64 → d_Et (a_fr A) g t E) ∧ o = .returned (none) ∧ M' = mw (w.sa 21 (E))) (k' := 62) (F' := 3) (N' := 72) (C' := 0) (S' := 0) (vs := [.int (nI g), .int (nI s)]) (st := []) rfl rfl rfl rfl (Nat.le_of_ble_eq_true rfl) (Nat.le_of_ble_eq_true rfl) (by decide) (by decide) (Nat.zero_le _) (Nat.zero_le _) (d_lookBack ho hj (by omega) (by omega) (fun E hE => ⟨E, hE, rfl, rfl⟩)) (fun v M' h => ?_) (fun q M' h => by obtain ⟨_, _, h, _⟩ := h; cases h)
  obtain ⟨E, hE, h, rfl⟩ := h
  cases h
  refine Sp.go 1 (g := (7, [(0, .ref 10), (1, .int (nI a)), (2, .int (nI g)), (3, .int (nI s))], [.ref 10])) rfl ?_
  refine Sp.get (v := .ref 21) rfl rfl rfl ?_
  refine Sp.go 5 (g := (16, [(0, .ref 10), (1, .int (nI a)), (2, .int (nI g)), (3, .int (nI s))], [.int ((8 * (nI s)) + (nI a)), .ref 21])) rfl ?_
  refine Sp.iald (f := E) (j := (8 * s) + a) rfl rfl (m_ix_of (by simp only [nI, Int32.ofNat_add, Int32.ofNat_mul] <;> rfl) (by omega) (by omega)) ?_
  rw [show E (8 * s + a) = nI (g_E (a_fr A) g (64 - s) a) from hE s (by omega) (by omega) a ha]
  refine Sp.go 3 (g := (23, [(4, .int (nI (g_E (a_fr A) g (64 - s) a))), (0, .ref 10), (1, .int (nI a)), (2, .int (nI g)), (3, .int (nI s))], [.int 99, .int (nI (g_E (a_fr A) g (64 - s) a))])) rfl ?_
  refine Sp.icmp rfl (fun (h1 : ¬ (nI (g_E (a_fr A) g (64 - s) a) : Int32) = (99 : Int32)) => ?_) (fun (h1 : ¬ (¬ (nI (g_E (a_fr A) g (64 - s) a) : Int32) = (99 : Int32))) => ?_)
  · skip
    refine Sp.go 1 (g := (32, [(4, .int (nI (g_E (a_fr A) g (64 - s) a))), (0, .ref 10), (1, .int (nI a)), (2, .int (nI g)), (3, .int (nI s))], [.int (nI (g_E (a_fr A) g (64 - s) a))])) rfl ?_
    refine Sp.iret rfl (Or.inl rfl) ?_
    have k2 := hq E hE; rw [show g_ans (g_E (a_fr A) g (64 - s) a) = nI (g_E (a_fr A) g (64 - s) a) from if_neg (fun z => h1 (by rw [z]; rfl))] at k2; exact k2
  · skip
    refine Sp.go 2 (g := (32, [(4, .int (nI (g_E (a_fr A) g (64 - s) a))), (0, .ref 10), (1, .int (nI a)), (2, .int (nI g)), (3, .int (nI s))], [.int (-1)])) rfl ?_
    refine Sp.iret rfl (Or.inl rfl) ?_
    have k2 := hq E hE; rw [show g_ans (g_E (a_fr A) g (64 - s) a) = -1 from if_pos ((nI_inj (b := 99) (by omega) (by omega)).mp (Classical.not_not.mp h1))] at k2; exact k2
theorem d_layI {X : mX} {C S : Nat} {Q : Outcome → mM → Prop} {w : mWd} {A A' : aS} (ho : a_ok A') (hj : JR0 w A') {g t n e h : Nat} (hf : ∀ a b, a_fr A' t a b = a_fr A t a b) {v2 v3 : Int32} (ht : t < 64) (hn : n < 8) (he : e ≤ 64) (hE : d_Et (a_fr A) g (t + 1) (w.a 21)) (hx : ∃ m, m < 8 ∧ a_fr A t n m = true ∧ g_E (a_fr A) g (63 - t) m = e) : ∀ (d : Nat) (x : Int32), d ≤ 8 → ((x = -1 ∧ ∀ m, d ≤ m → m < 8 → ¬ (a_fr A t n m = true ∧ g_E (a_fr A) g (63 - t) m = e)) ∨ ∃ m, m < 8 ∧ x = nI m ∧ (a_fr A t n m = true ∧ g_E (a_fr A) g (63 - t) m = e) ∧ ∀ m', d ≤ m' → m' < m → ¬ (a_fr A t n m' = true ∧ g_E (a_fr A) g (63 - t) m' = e)) → (∀ m, m < 8 → (a_fr A t n m = true ∧ g_E (a_fr A) g (63 - t) m = e) → (∀ m', m' < m → ¬ (a_fr A t n m' = true ∧ g_E (a_fr A) g (63 - t) m' = e)) → Sp X 64 3 72 C S (100, [(7, .int (nI m)), (6, .int (nI t)), (5, .int (nI n)), (4, .int (nI e)), (0, .ref 10), (1, .int (nI h)), (2, .int (v2)), (3, .int (v3))], []) (mw w) Q) → Sp X 64 3 72 C S (46, [(8, .int (nI d - 1)), (7, .int (x)), (6, .int (nI t)), (5, .int (nI n)), (4, .int (nI e)), (0, .ref 10), (1, .int (nI h)), (2, .int (v2)), (3, .int (v3))], []) (mw w) Q := by
  intro d
  induction d with
  | zero =>
    intro x hd hv kk
    refine Sp.go 1 (g := (48, [(8, .int (nI 0 - 1)), (7, .int (x)), (6, .int (nI t)), (5, .int (nI n)), (4, .int (nI e)), (0, .ref 10), (1, .int (nI h)), (2, .int (v2)), (3, .int (v3))], [.int (nI 0 - 1)])) rfl ?_
    refine Sp.if rfl (fun u1 => ?_) (fun u1 => absurd (show nI 0 - 1 < 0 by decide) u1)
    refine Sp.lsub [1, 2, 3, 4, 5, 6, 7, 8] (ls' := [(7, .int (x)), (6, .int (nI t)), (5, .int (nI n)), (4, .int (nI e)), (0, .ref 10), (1, .int (nI h)), (2, .int (v2)), (3, .int (v3))]) rfl ?_
    rcases hv with ⟨_, hv⟩ | ⟨m, hm, rfl, h1, h2⟩
    · obtain ⟨m, hm, h1, h2⟩ := hx
      exact absurd ⟨h1, h2⟩ (hv m (by omega) hm)
    · exact kk m hm h1 (fun m' h3 => h2 m' (by omega) h3)
  | succ d ih =>
    intro x hd hv kk
    rw [show nI (d + 1) - 1 = nI d from nI_pred d]
    have hEd : w.a 21 (8 * t + 8 + d) = nI (g_E (a_fr A) g (63 - t) d) := by
      have := hE d (by omega)
      rw [show 8 * (t + 1) + d = 8 * t + 8 + d by omega, show 64 - (t + 1) = 63 - t by omega] at this
      exact this
    have h99 := g_E_99 (a_fr A) g (63 - t) d (by omega)
    have hfd := hf n d
    have hnd : ¬ nI d < 0 := nI_pos (by omega)
    refine Sp.go 1 (g := (48, [(8, .int (nI d)), (7, .int (x)), (6, .int (nI t)), (5, .int (nI n)), (4, .int (nI e)), (0, .ref 10), (1, .int (nI h)), (2, .int (v2)), (3, .int (v3))], [.int (nI d)])) rfl ?_
    refine Sp.if rfl (fun u1 => absurd u1 hnd) (fun u1 => ?_)
    refine Sp.go 1 (g := (52, [(8, .int (nI d)), (7, .int (x)), (6, .int (nI t)), (5, .int (nI n)), (4, .int (nI e)), (0, .ref 10), (1, .int (nI h)), (2, .int (v2)), (3, .int (v3))], [.ref 10])) rfl ?_
    refine Sp.get (v := .ref 21) rfl rfl rfl ?_
    refine Sp.go 7 (g := (66, [(8, .int (nI d)), (7, .int (x)), (6, .int (nI t)), (5, .int (nI n)), (4, .int (nI e)), (0, .ref 10), (1, .int (nI h)), (2, .int (v2)), (3, .int (v3))], [.int (((8 * (nI t)) + 8) + (nI d)), .ref 21])) rfl ?_
    refine Sp.iald (f := w.a 21) (j := ((8 * t) + 8) + d) rfl rfl (m_ix_of (by simp only [nI, Int32.ofNat_add, Int32.ofNat_mul] <;> rfl) (by omega) (by omega)) ?_
    rw [hEd]
    refine Sp.go 1 (g := (69, [(8, .int (nI d)), (7, .int (x)), (6, .int (nI t)), (5, .int (nI n)), (4, .int (nI e)), (0, .ref 10), (1, .int (nI h)), (2, .int (v2)), (3, .int (v3))], [.int (nI e), .int (nI (g_E (a_fr A) g (63 - t) d))])) rfl ?_
    refine Sp.icmp rfl (fun (h2 : ¬ (nI (g_E (a_fr A) g (63 - t) d) : Int32) = (nI e : Int32)) => ?_) (fun (h2 : ¬ (¬ (nI (g_E (a_fr A) g (63 - t) d) : Int32) = (nI e : Int32))) => ?_)
    · skip
      refine Sp.go 4 (g := (46, [(8, .int (nI d + (-1))), (7, .int (x)), (6, .int (nI t)), (5, .int (nI n)), (4, .int (nI e)), (0, .ref 10), (1, .int (nI h)), (2, .int (v2)), (3, .int (v3))], [])) rfl ?_
      rw [nI_m1]
      have hnp : ¬ (a_fr A t n d = true ∧ g_E (a_fr A) g (63 - t) d = e) := by
        first | (rw [← hfd, h3]; simp; done) | exact fun z => h2 (by rw [z.2])
      refine ih _ (by omega) ?_ kk
      rcases hv with ⟨e1, hv⟩ | ⟨m, hm, rfl, h1, h2⟩
      · refine Or.inl ⟨e1, fun m h4 h5 => ?_⟩
        by_cases e2 : m = d
        · rw [e2]; exact hnp
        · exact hv m (by omega) h5
      · refine Or.inr ⟨m, hm, rfl, h1, fun m' h4 h5 => ?_⟩
        by_cases e2 : m' = d
        · rw [e2]; exact hnp
        · exact h2 m' (by omega) h5
    · skip
      refine Sp.go 4 (g := (79, [(8, .int (nI d)), (7, .int (x)), (6, .int (nI t)), (5, .int (nI n)), (4, .int (nI e)), (0, .ref 10), (1, .int (nI h)), (2, .int (v2)), (3, .int (v3))], [.int (nI d), .int (nI n), .int (nI t), .ref 10])) rfl ?_
      refine Sp.vr (some (.int (m_b2 (a_fr A' t n d)))) (mw (w)) (k' := 61) (F' := 2) (N' := 49) (C' := 0) (S' := 0) (vs := [.int (nI t), .int (nI n), .int (nI d)]) (st := []) rfl rfl rfl rfl (Nat.le_of_ble_eq_true rfl) (Nat.le_of_ble_eq_true rfl) (by decide) (by decide) (Nat.zero_le _) (Nat.zero_le _) (fun Q' h => d_isFree ho hj (by omega) (by omega) (by omega) h) ?_
      refine Sp.ifb rfl (fun h3 => ?_) (fun h3 => ?_)
      · skip
        refine Sp.go 4 (g := (46, [(8, .int (nI d + (-1))), (7, .int (x)), (6, .int (nI t)), (5, .int (nI n)), (4, .int (nI e)), (0, .ref 10), (1, .int (nI h)), (2, .int (v2)), (3, .int (v3))], [])) rfl ?_
        rw [nI_m1]
        have hnp : ¬ (a_fr A t n d = true ∧ g_E (a_fr A) g (63 - t) d = e) := by
          first | (rw [← hfd, h3]; simp; done) | exact fun z => h2 (by rw [z.2])
        refine ih _ (by omega) ?_ kk
        rcases hv with ⟨e1, hv⟩ | ⟨m, hm, rfl, h1, h2⟩
        · refine Or.inl ⟨e1, fun m h4 h5 => ?_⟩
          by_cases e2 : m = d
          · rw [e2]; exact hnp
          · exact hv m (by omega) h5
        · refine Or.inr ⟨m, hm, rfl, h1, fun m' h4 h5 => ?_⟩
          by_cases e2 : m' = d
          · rw [e2]; exact hnp
          · exact h2 m' (by omega) h5
      · skip
        refine Sp.go 5 (g := (46, [(8, .int (nI d + (-1))), (7, .int (nI d)), (6, .int (nI t)), (5, .int (nI n)), (4, .int (nI e)), (0, .ref 10), (1, .int (nI h)), (2, .int (v2)), (3, .int (v3))], [])) rfl ?_
        rw [nI_m1]
        refine ih _ (by omega) (Or.inr ⟨d, by omega, rfl, ⟨by rw [← hfd]; exact h3, (nI_inj (by omega) (by omega)).mp (Classical.not_not.mp h2)⟩, fun m' h4 h5 => by omega⟩) kk
theorem d_layO {X : mX} {C S : Nat} {Q : Outcome → mM → Prop} {w : mWd} {A : aS} (ho : a_ok A) {g s e h : Nat} {v2 v3 : Int32} {r0 : Nat → Nat} (hh : h < 32) (he : e ≤ 64) (hs : h < A.P → A.la h ≤ s ∧ A.at h ≤ s ∧ r0 (A.at h) = A.nd h (A.at h)) (hj : JR0 w A) (hE : ∀ t, s ≤ t → t ≤ 64 → d_Et (a_fr A) g t (w.a 21)) : ∀ (d t : Nat) (r : Nat → Nat), t + d = e → s ≤ t → (∀ i, i < 65 → r i < 8) → (∀ i, i ≤ s ∨ t < i → r i = r0 i) → (∀ i, s ≤ i → i < t → r (i + 1) < 8 ∧ a_fr A i (r i) (r (i + 1)) = true ∧ g_E (a_fr A) g (63 - i) (r (i + 1)) = e ∧ ∀ m, m < r (i + 1) → ¬ (a_fr A i (r i) m = true ∧ g_E (a_fr A) g (63 - i) m = e)) → g_E (a_fr A) g (64 - t) (r t) = e → (∀ r', (∀ i, i < 65 → r' i < 8) → (∀ i, i ≤ s ∨ e < i → r' i = r0 i) → (∀ i, s ≤ i → i < e → r' (i + 1) < 8 ∧ a_fr A i (r' i) (r' (i + 1)) = true ∧ g_E (a_fr A) g (63 - i) (r' (i + 1)) = e ∧ ∀ m, m < r' (i + 1) → ¬ (a_fr A i (r' i) m = true ∧ g_E (a_fr A) g (63 - i) m = e)) → Q (.returned none) (mw ((w.sa 19 (d_row (w.a 19) h r')).sa 18 (upd (w.a 18) h (nI e))))) → Sp X 64 3 72 C S (32, [(6, .int (nI t)), (5, .int (nI (r t))), (4, .int (nI e)), (0, .ref 10), (1, .int (nI h)), (2, .int (v2)), (3, .int (v3))], []) (mw (w.sa 19 (d_row (w.a 19) h r))) Q := by
  intro d
  induction d with
  | zero =>
    intro t r ht hst hr8 hr0 hrW hgE kk
    refine Sp.go 2 (g := (36, [(6, .int (nI t)), (5, .int (nI (r t))), (4, .int (nI e)), (0, .ref 10), (1, .int (nI h)), (2, .int (v2)), (3, .int (v3))], [.int (nI e), .int (nI t)])) rfl ?_
    refine Sp.icmp rfl (fun u1 => ?_) (fun u1 => absurd ((nI_le' (by omega) (by omega)).mpr (by omega)) u1)
    refine Sp.go 1 (g := (127, [(6, .int (nI t)), (5, .int (nI (r t))), (4, .int (nI e)), (0, .ref 10), (1, .int (nI h)), (2, .int (v2)), (3, .int (v3))], [.ref 10])) rfl ?_
    refine Sp.get (v := .ref 18) rfl rfl rfl ?_
    refine Sp.go 2 (g := (133, [(6, .int (nI t)), (5, .int (nI (r t))), (4, .int (nI e)), (0, .ref 10), (1, .int (nI h)), (2, .int (v2)), (3, .int (v3))], [.int (nI e), .int (nI h), .ref 18])) rfl ?_
    refine Sp.pa18 (j := h) rfl (m_ix_of (by simp only [nI, Int32.ofNat_add, Int32.ofNat_mul] <;> rfl) (by omega) (by omega)) ?_
    refine Sp.wd (w' := ((w).sa 19 (d_row (w.a 19) h r)).sa 18 (upd (w.a 18) h (nI e))) rfl ?_
    refine Sp.vret rfl rfl ?_
    have et : t = e := by omega
    exact kk r hr8 (fun i hi => hr0 i (by omega)) (fun i h1 h2 => hrW i h1 (by omega))
  | succ d ih =>
    intro t r ht hst hr8 hr0 hrW hgE kk
    refine Sp.go 2 (g := (36, [(6, .int (nI t)), (5, .int (nI (r t))), (4, .int (nI e)), (0, .ref 10), (1, .int (nI h)), (2, .int (v2)), (3, .int (v3))], [.int (nI e), .int (nI t)])) rfl ?_
    refine Sp.icmp rfl (fun u1 => absurd u1 (fun z => absurd ((nI_le' (by omega) (by omega)).mp z) (by omega))) (fun u1 => ?_)
    refine Sp.go 4 (g := (46, [(8, .int 7), (7, .int (-1)), (6, .int (nI t)), (5, .int (nI (r t))), (4, .int (nI e)), (0, .ref 10), (1, .int (nI h)), (2, .int (v2)), (3, .int (v3))], [])) rfl ?_
    have hjr : JR0 (w.sa 19 (d_row (w.a 19) h r)) (A.nds h r) := hj.nds ho (fun z => by rw [hr0 _ (Or.inl (hs z).2.1)]; exact (hs z).2.2)
    refine d_layI (A := A) (A' := A.nds h r) (g := g) (t := t) (n := r t) (e := e) (ho.nds hr8) hjr (fun a b => a_fr_nds (fun z => (hs z).1) hst a b) (by omega) (hr8 t (by omega)) he (hE (t + 1) (by omega) (by omega)) (g_has (by omega) he hgE) 8 (-1) (by omega) (Or.inl ⟨rfl, fun m h1 h2 => by omega⟩) (fun m hm hp hmin => ?_)
    refine Sp.go 3 (g := (105, [(5, .int (nI m)), (7, .int (nI m)), (6, .int (nI t)), (4, .int (nI e)), (0, .ref 10), (1, .int (nI h)), (2, .int (v2)), (3, .int (v3))], [.ref 10])) rfl ?_
    refine Sp.get (v := .ref 19) rfl rfl rfl ?_
    refine Sp.go 8 (g := (119, [(5, .int (nI m)), (7, .int (nI m)), (6, .int (nI t)), (4, .int (nI e)), (0, .ref 10), (1, .int (nI h)), (2, .int (v2)), (3, .int (v3))], [.int (nI m), .int (((65 * (nI h)) + (nI t)) + 1), .ref 19])) rfl ?_
    refine Sp.pa19 (j := ((65 * h) + t) + 1) rfl (m_ix_of (by simp only [nI, Int32.ofNat_add, Int32.ofNat_mul] <;> rfl) (by omega) (by omega)) ?_
    refine Sp.wd (w' := w.sa 19 (upd (d_row (w.a 19) h r) (((65 * h) + t) + 1) (nI m))) (mWd.sa_sa ..) ?_
    refine Sp.go 2 (g := (32, [(6, .int (nI t + 1)), (5, .int (nI m)), (7, .int (nI m)), (4, .int (nI e)), (0, .ref 10), (1, .int (nI h)), (2, .int (v2)), (3, .int (v3))], [])) rfl ?_
    refine Sp.lsub [0, 1, 3, 4, 5, 6, 7] (ls' := [(6, .int (nI t + 1)), (5, .int (nI m)), (4, .int (nI e)), (0, .ref 10), (1, .int (nI h)), (2, .int (v2)), (3, .int (v3))]) rfl ?_
    rw [show nI t + 1 = nI (t + 1) from (nI_succ t).symm]
    rw [show 65 * h + t + 1 = 65 * h + (t + 1) from rfl, d_row_up (by omega)]
    have hm2 : ∀ i, i ≤ t → g_up r (t + 1) m i = r i := fun i hi => by simp only [g_up]; rw [if_neg (by omega)]
    have hm3 : g_up r (t + 1) m (t + 1) = m := by simp [g_up]
    have k2 := ih (t + 1) (g_up r (t + 1) m) (by omega) (by omega) (fun i hi => ?_) (fun i hi => ?_) (fun i h1 h2 => ?_) ?_ kk
    · rw [hm3] at k2; exact k2
    · simp only [g_up]; split
      · exact hm
      · exact hr8 i hi
    · simp only [g_up]; rw [if_neg (by omega)]; exact hr0 i (by omega)
    · by_cases ei : i = t
      · subst ei; rw [hm3, hm2 i (by omega)]; exact ⟨hm, hp.1, hp.2, hmin⟩
      · rw [hm2 i (by omega), hm2 (i + 1) (by omega)]; exact hrW i h1 (by omega)
    · rw [hm3, show 64 - (t + 1) = 63 - t by omega]; exact hp.2
theorem d_lay {X : mX} {C S : Nat} {Q : Outcome → mM → Prop} {w : mWd} {A : aS} (ho : a_ok A) {g s e h a : Nat} {r : Nat → Nat} (hh : h < 32) (ha : a < 8) (hs64 : s < 64) (he : e ≤ 64) (hse : s ≤ e) (hs : h < A.P → A.la h ≤ s ∧ A.at h ≤ s ∧ r s = a) (hr : ∀ i, i < 65 → w.a 19 (65 * h + i) = nI (r i) ∧ r i < 8) (hj : JR0 w A) (hE : ∀ t, s ≤ t → t ≤ 64 → d_Et (a_fr A) g t (w.a 21)) (hgE : g_E (a_fr A) g (64 - s) a = e) (hq : ∀ r', (∀ i, i < 65 → r' i < 8) → (∀ i, i < s ∨ e < i → r' i = r i) → g_W (a_fr A) g a s e r' → Q (.returned none) (mw ((w.sa 19 (d_row (w.a 19) h r')).sa 18 (upd (w.a 18) h (nI e))))) : Sp X 64 3 72 C S (0, [(0, .ref 10), (1, .int (nI h)), (2, .int (nI a)), (3, .int (nI s))], []) (mw w) Q := by
  refine Sp.go 1 (g := (1, [(0, .ref 10), (1, .int (nI h)), (2, .int (nI a)), (3, .int (nI s))], [.ref 10])) rfl ?_
  refine Sp.get (v := .ref 21) rfl rfl rfl ?_
  refine Sp.go 5 (g := (10, [(0, .ref 10), (1, .int (nI h)), (2, .int (nI a)), (3, .int (nI s))], [.int ((8 * (nI s)) + (nI a)), .ref 21])) rfl ?_
  refine Sp.iald (f := w.a 21) (j := (8 * s) + a) rfl rfl (m_ix_of (by simp only [nI, Int32.ofNat_add, Int32.ofNat_mul] <;> rfl) (by omega) (by omega)) ?_
  rw [show w.a 21 (8 * s + a) = nI e by rw [hE s (by omega) (by omega) a ha, hgE]]
  refine Sp.go 4 (g := (17, [(5, .int (nI a)), (4, .int (nI e)), (0, .ref 10), (1, .int (nI h)), (2, .int (nI a)), (3, .int (nI s))], [.ref 10])) rfl ?_
  refine Sp.get (v := .ref 19) rfl rfl rfl ?_
  refine Sp.go 6 (g := (28, [(5, .int (nI a)), (4, .int (nI e)), (0, .ref 10), (1, .int (nI h)), (2, .int (nI a)), (3, .int (nI s))], [.int (nI a), .int ((65 * (nI h)) + (nI s)), .ref 19])) rfl ?_
  refine Sp.pa19 (j := (65 * h) + s) rfl (m_ix_of (by simp only [nI, Int32.ofNat_add, Int32.ofNat_mul] <;> rfl) (by omega) (by omega)) ?_
  refine Sp.go 2 (g := (32, [(6, .int (nI s)), (5, .int (nI a)), (4, .int (nI e)), (0, .ref 10), (1, .int (nI h)), (2, .int (nI a)), (3, .int (nI s))], [])) rfl ?_
  rw [← d_row_self (W := w.a 19) (h := h) (r := r) (fun i hi => (hr i hi).1), d_row_up (by omega)]
  have hss : g_up r s a s = a := by simp [g_up]
  have k2 := d_layO (w := w) (A := A) (g := g) (s := s) (e := e) (h := h) (v2 := nI a) (v3 := nI s) (r0 := g_up r s a) (X := X) (C := C) (S := S) (Q := Q) ho hh he (fun z => ⟨(hs z).1, (hs z).2.1, ?_⟩) hj hE (e - s) s (g_up r s a) (by omega) (by omega) (fun i hi => ?_) (fun i _ => rfl) (fun i h1 h2 => by omega) (by rw [hss]; exact hgE) (fun r' h1 h2 h3 => ?_)
  · rw [hss] at k2; exact k2
  · have e1 : g_up r s a = r := by have := g_up_self r s; rw [(hs z).2.2] at this; exact this
    rw [e1]
    have k3 := (hr (A.at h) (by have := (hs z).2.1; omega))
    have k4 := (hj.2.2.2.2.2.1 h z).2.2.2.2.2.2 (A.at h) (by have := (hs z).2.1; omega)
    have k5 := (ho.2.2.2.2 h z).2.2.2 (A.at h) (by have := (hs z).2.1; omega)
    rw [k3.1] at k4
    exact (nI_inj (by omega) (by omega)).mp k4
  · simp only [g_up]; split
    · exact ha
    · exact (hr i hi).2
  · refine hq r' h1 (fun i hi => ?_) ⟨by rw [h2 s (by omega)]; exact hss, h3⟩
    rw [h2 i (by omega)]; simp only [g_up]; rw [if_neg (by omega)]
end
section
/-! The reference: what it shows. Rows laid by wip/gen/model4.py. -/
theorem nI_eq0 {n : Nat} (h : n < 2 ^ 31) : nI n = 0 ↔ n = 0 := nI_inj (b := 0) h (by omega)
theorem nI_le0 {n : Nat} (h : n < 2 ^ 31) : nI n ≤ 0 ↔ n = 0 := (nI_le' (b := 0) h (by omega)).trans (by omega)
theorem i_nlt {a b : Int32} (h : ¬ a < b) : b ≤ a := by rw [Int32.lt_iff_toInt_lt] at h; rw [Int32.le_iff_toInt_le]; omega
theorem i_nlt2 {a b : Int32} (h : b ≤ a) : ¬ a < b := by rw [Int32.lt_iff_toInt_lt]; rw [Int32.le_iff_toInt_le] at h; omega
theorem JR0.t {w : mWd} {A : aS} {v : Int32} (h : JR0 w A) : JR0 (w.sf 5 v) A := h
theorem JR0.now {w : mWd} {A : aS} (h : JR0 w A) : w.f 6 = nI A.T := h.1
theorem JR0.cs {w : mWd} {A : aS} (h : JR0 w A) : w.f 7 = nI A.nc := h.2.1
theorem JR0.ps {w : mWd} {A : aS} (h : JR0 w A) : w.f 8 = nI A.P := h.2.2.1
theorem JR0.pl {w : mWd} {A : aS} (h : JR0 w A) {n : Nat} (hn : n < 8) : w.a 11 n = a_places (A.pl n) := h.2.2.2.1 n hn
theorem JR0.go {w : mWd} {A : aS} (h : JR0 w A) {n : Nat} (hn : n < A.P) : w.a 13 n = nI (A.go n) := (h.2.2.2.2.2.1 n hn).1
theorem JR0.src {w : mWd} {A : aS} (h : JR0 w A) {n : Nat} (hn : n < A.P) : w.a 14 n = nI (A.nd n (A.at n)) := (h.2.2.2.2.2.1 n hn).2.1
theorem JR0.sta {w : mWd} {A : aS} (h : JR0 w A) {n : Nat} (hn : n < A.P) : w.a 15 n = nI (A.at n) := (h.2.2.2.2.2.1 n hn).2.2.1
theorem JR0.fa {w : mWd} {A : aS} (h : JR0 w A) {n : Nat} (hn : n < A.P) : w.a 16 n = nI (A.fa n) := (h.2.2.2.2.2.1 n hn).2.2.2.1
theorem JR0.fir {w : mWd} {A : aS} (h : JR0 w A) {n : Nat} (hn : n < A.P) : w.a 17 n = nI (A.at n) := (h.2.2.2.2.2.1 n hn).2.2.2.2.1
theorem JR0.la {w : mWd} {A : aS} (h : JR0 w A) {n : Nat} (hn : n < A.P) : w.a 18 n = nI (A.la n) := (h.2.2.2.2.2.1 n hn).2.2.2.2.2.1
theorem JR0.nd {w : mWd} {A : aS} (h : JR0 w A) {n i : Nat} (hn : n < A.P) (hi : i < 65) : w.a 19 (65 * n + i) = nI (A.nd n i) := (h.2.2.2.2.2.1 n hn).2.2.2.2.2.2 i hi
/-- is x a handle -/
def a_in (A : aS) (x : Int32) : Bool := !decide (x < 0) && decide (x < nI A.P)
theorem a_in_nI {A : aS} {h : Nat} (ho : a_ok A) (hh : h < A.P) : a_in A (nI h) = true := by
  have := ho.2.2.1
  simp [a_in, nI_pos (n := h) (by omega), (nI_lt' (a := h) (b := A.P) (by omega) (by omega)).mpr hh]
theorem a_in_spec {A : aS} {x : Int32} (ho : a_ok A) (h : a_in A x = true) : ∃ n, n < A.P ∧ x = nI n := by
  have := ho.2.2.1
  simp only [a_in, Bool.and_eq_true, Bool.not_eq_true', decide_eq_false_iff_not, decide_eq_true_eq] at h
  refine ⟨x.toNatClampNeg, ?_, m_nat h.1⟩
  have h1 := h.2
  rw [m_nat h.1] at h1
  have h2 : x.toNatClampNeg < 2 ^ 31 := by
    have := Int32.toInt_lt x
    show x.toInt.toNat < 2 ^ 31
    omega
  exact (nI_lt' h2 (by omega)).mp h1
theorem a_in_out {A : aS} {x : Int32} (h : a_in A x = false) : x < 0 ∨ nI A.P ≤ x := by
  by_cases h0 : x < 0
  · exact Or.inl h0
  · right
    simp only [a_in, h0, decide_false, Bool.not_false, Bool.true_and, decide_eq_false_iff_not] at h
    exact i_nlt h
def a_state (A : aS) (h : Nat) : Int32 := if A.fa h = 0 then (if A.T < A.at h then 1 else 2) else nI (A.fa h)
def a_where (A : aS) (h : Nat) : Int32 := if A.fa h = 0 ∧ A.at h ≤ A.T then nI (A.nd h A.T) else -1
def a_arrival (A : aS) (h : Nat) : Int32 := if A.fa h = 0 ∨ A.fa h = 3 then nI (A.la h) else -1
def a_step (A : aS) (h : Nat) (x : Int32) : Int32 := if nI (A.at h) ≤ x ∧ x ≤ nI (A.la h) then nI (A.nd h x.toNatClampNeg) else -1
theorem d_noParcel {X : mX} {C S : Nat} {Q : Outcome → mM → Prop} {w : mWd} {A : aS} (ho : a_ok A) (hj : JR0 w A) {x : Int32} (hq : Q (.returned (some (.int (m_b2 (!a_in A x))))) (mw w)) : Sp X 71 0 0 C S (0, [(0, .ref 10), (1, .int (x))], []) (mw w) Q := by
  refine Sp.go 1 (g := (1, [(0, .ref 10), (1, .int (x))], [.int (x)])) rfl ?_
  refine Sp.if rfl (fun (h1 : (x : Int32) < (0 : Int32)) => ?_) (fun (h1 : ¬ ((x : Int32) < (0 : Int32))) => ?_)
  · skip
    refine Sp.go 2 (g := (17, [(0, .ref 10), (1, .int (x))], [.int 1])) rfl ?_
    refine Sp.iret rfl (Or.inr ⟨rfl, Or.inr rfl⟩) ?_
    rw [show a_in A x = false by simp [a_in, h1]] at hq; exact hq
  · skip
    refine Sp.go 2 (g := (6, [(0, .ref 10), (1, .int (x))], [.ref 10, .int (x)])) rfl ?_
    refine Sp.get (v := .int (nI (A.P))) rfl rfl (by rw [← hj.ps]; rfl) ?_
    refine Sp.icmp rfl (fun (h2 : (x : Int32) < (nI (A.P) : Int32)) => ?_) (fun (h2 : ¬ ((x : Int32) < (nI (A.P) : Int32))) => ?_)
    · skip
      refine Sp.go 1 (g := (17, [(0, .ref 10), (1, .int (x))], [.int 0])) rfl ?_
      refine Sp.iret rfl (Or.inr ⟨rfl, Or.inl rfl⟩) ?_
      rw [show a_in A x = true by simp [a_in, h1, h2]] at hq; exact hq
    · skip
      refine Sp.go 2 (g := (17, [(0, .ref 10), (1, .int (x))], [.int 1])) rfl ?_
      refine Sp.iret rfl (Or.inr ⟨rfl, Or.inr rfl⟩) ?_
      rw [show a_in A x = false by simp [a_in, h2]] at hq; exact hq
theorem d_isLive {X : mX} {C S : Nat} {Q : Outcome → mM → Prop} {w : mWd} {A : aS} (ho : a_ok A) (hj : JR0 w A) {h : Nat} (hh : h < A.P) (hf : A.fa h ≤ 5) (hq : Q (.returned (some (.int (m_b2 (decide (A.fa h = 0)))))) (mw w)) : Sp X 72 1 21 C S (0, [(0, .ref 10), (1, .int (nI h))], []) (mw w) Q := by
  have h32 := ho.2.2.1
  refine Sp.go 2 (g := (2, [(0, .ref 10), (1, .int (nI h))], [.int (nI h), .ref 10])) rfl ?_
  refine Sp.vr (some (.int (m_b2 (!a_in A (nI h))))) (mw (w)) (k' := 71) (F' := 0) (N' := 0) (C' := 0) (S' := 0) (vs := [.int (nI h)]) (st := []) rfl rfl rfl rfl (Nat.le_of_ble_eq_true rfl) (Nat.le_of_ble_eq_true rfl) (by decide) (by decide) (Nat.zero_le _) (Nat.zero_le _) (fun Q' h => d_noParcel ho hj h) ?_
  refine Sp.ifbn rfl (fun u1 => absurd u1 (by rw [a_in_nI ho hh]; decide)) (fun u1 => ?_)
  refine Sp.go 1 (g := (9, [(0, .ref 10), (1, .int (nI h))], [.ref 10])) rfl ?_
  refine Sp.get (v := .ref 16) rfl rfl rfl ?_
  refine Sp.go 1 (g := (13, [(0, .ref 10), (1, .int (nI h))], [.int (nI h), .ref 16])) rfl ?_
  refine Sp.iald (f := w.a 16) (j := h) rfl rfl (m_ix_of (by simp only [nI, Int32.ofNat_add, Int32.ofNat_mul] <;> rfl) (by omega) (by omega)) ?_
  rw [hj.fa hh]
  refine Sp.if rfl (fun (h2 : ¬ (nI (A.fa h) : Int32) = (0 : Int32)) => ?_) (fun (h2 : ¬ (¬ (nI (A.fa h) : Int32) = (0 : Int32))) => ?_)
  · skip
    refine Sp.go 1 (g := (22, [(0, .ref 10), (1, .int (nI h))], [.int 0])) rfl ?_
    refine Sp.iret rfl (Or.inr ⟨rfl, Or.inl rfl⟩) ?_
    rw [show decide (A.fa h = 0) = false by rw [nI_eq0 (by omega)] at h2; simp [h2]] at hq; exact hq
  · skip
    refine Sp.go 2 (g := (22, [(0, .ref 10), (1, .int (nI h))], [.int 1])) rfl ?_
    refine Sp.iret rfl (Or.inr ⟨rfl, Or.inr rfl⟩) ?_
    rw [show decide (A.fa h = 0) = true by rw [Classical.not_not] at h2; have h2 := (nI_inj (b := 0) (by omega) (by omega)).mp h2; simp [h2]] at hq; exact hq
theorem d_isLive_out {X : mX} {C S : Nat} {Q : Outcome → mM → Prop} {w : mWd} {A : aS} (ho : a_ok A) (hj : JR0 w A) {x : Int32} (hx : a_in A x = false) (hq : Q (.returned (some (.int 0))) (mw w)) : Sp X 72 1 21 C S (0, [(0, .ref 10), (1, .int (x))], []) (mw w) Q := by
  refine Sp.go 2 (g := (2, [(0, .ref 10), (1, .int (x))], [.int (x), .ref 10])) rfl ?_
  refine Sp.vr (some (.int (m_b2 (!a_in A (x))))) (mw (w)) (k' := 71) (F' := 0) (N' := 0) (C' := 0) (S' := 0) (vs := [.int (x)]) (st := []) rfl rfl rfl rfl (Nat.le_of_ble_eq_true rfl) (Nat.le_of_ble_eq_true rfl) (by decide) (by decide) (Nat.zero_le _) (Nat.zero_le _) (fun Q' h => d_noParcel ho hj h) ?_
  refine Sp.ifbn rfl (fun u1 => ?_) (fun u1 => absurd u1 (by rw [hx]; decide))
  refine Sp.go 1 (g := (22, [(0, .ref 10), (1, .int (x))], [.int 0])) rfl ?_
  refine Sp.iret rfl (Or.inr ⟨rfl, Or.inl rfl⟩) ?_
  exact hq
theorem d_now {X : mX} {C S : Nat} {Q : Outcome → mM → Prop} {w : mWd} {A : aS} (ho : a_ok A) (hj : JR0 w A) (hq : Q (.returned (some (.int (nI A.T)))) (mw (w.sf 5 0))) : Sp X 67 0 0 C S (0, [(0, .ref 10)], []) (mw w) Q := by
  refine Sp.go 2 (g := (2, [(0, .ref 10)], [.int 0, .ref 10])) rfl ?_
  refine Sp.pf5 rfl ?_
  refine Sp.go 1 (g := (6, [(0, .ref 10)], [.ref 10])) rfl ?_
  refine Sp.get (v := .int (nI (A.T))) rfl rfl (by rw [← hj.now]; rfl) ?_
  refine Sp.iret rfl (Or.inl rfl) ?_
  exact hq
theorem d_state {X : mX} {C S : Nat} {Q : Outcome → mM → Prop} {w : mWd} {A : aS} (ho : a_ok A) (hj : JR0 w A) {h : Nat} (hh : h < A.P) (hf : A.fa h ≤ 5) (hq : Q (.returned (some (.int (a_state A h)))) (mw (w.sf 5 0))) : Sp X 77 1 21 C S (0, [(0, .ref 10), (1, .int (nI h))], []) (mw w) Q := by
  have h32 := ho.2.2.1
  have hb4 := ho.2.2.2.2 h hh
  have hT := ho.1
  refine Sp.go 2 (g := (2, [(0, .ref 10), (1, .int (nI h))], [.int 0, .ref 10])) rfl ?_
  refine Sp.pf5 rfl ?_
  refine Sp.go 2 (g := (7, [(0, .ref 10), (1, .int (nI h))], [.int (nI h), .ref 10])) rfl ?_
  refine Sp.vr (some (.int (m_b2 (!a_in A (nI h))))) (mw (w.sf 5 (0))) (k' := 71) (F' := 0) (N' := 0) (C' := 0) (S' := 0) (vs := [.int (nI h)]) (st := []) rfl rfl rfl rfl (Nat.le_of_ble_eq_true rfl) (Nat.le_of_ble_eq_true rfl) (by decide) (by decide) (Nat.zero_le _) (Nat.zero_le _) (fun Q' h => d_noParcel ho hj.t h) ?_
  refine Sp.ifb rfl (fun u1 => ?_) (fun u1 => absurd u1 (by rw [a_in_nI ho hh]; decide))
  refine Sp.go 1 (g := (18, [(0, .ref 10), (1, .int (nI h))], [.ref 10])) rfl ?_
  refine Sp.get (v := .ref 16) rfl rfl rfl ?_
  refine Sp.go 1 (g := (22, [(0, .ref 10), (1, .int (nI h))], [.int (nI h), .ref 16])) rfl ?_
  refine Sp.iald (f := w.a 16) (j := h) rfl rfl (m_ix_of (by simp only [nI, Int32.ofNat_add, Int32.ofNat_mul] <;> rfl) (by omega) (by omega)) ?_
  rw [hj.fa hh]
  refine Sp.if rfl (fun (h2 : (nI (A.fa h) : Int32) ≤ (0 : Int32)) => ?_) (fun (h2 : ¬ ((nI (A.fa h) : Int32) ≤ (0 : Int32))) => ?_)
  · skip
    refine Sp.go 1 (g := (36, [(0, .ref 10), (1, .int (nI h))], [.ref 10])) rfl ?_
    refine Sp.get (v := .int (nI (A.T))) rfl rfl (by rw [← hj.now]; rfl) ?_
    refine Sp.go 1 (g := (40, [(0, .ref 10), (1, .int (nI h))], [.ref 10, .int (nI (A.T))])) rfl ?_
    refine Sp.get (v := .ref 15) rfl rfl rfl ?_
    refine Sp.go 1 (g := (44, [(0, .ref 10), (1, .int (nI h))], [.int (nI h), .ref 15, .int (nI (A.T))])) rfl ?_
    refine Sp.iald (f := w.a 15) (j := h) rfl rfl (m_ix_of (by simp only [nI, Int32.ofNat_add, Int32.ofNat_mul] <;> rfl) (by omega) (by omega)) ?_
    rw [hj.sta hh]
    refine Sp.icmp rfl (fun (h3 : (nI (A.at h) : Int32) ≤ (nI (A.T) : Int32)) => ?_) (fun (h3 : ¬ ((nI (A.at h) : Int32) ≤ (nI (A.T) : Int32))) => ?_)
    · skip
      refine Sp.go 1 (g := (53, [(0, .ref 10), (1, .int (nI h))], [.int 2])) rfl ?_
      refine Sp.iret rfl (Or.inl rfl) ?_
      rw [show a_state A h = (if A.T < A.at h then 1 else 2) from if_pos (by rw [nI_le0 (by omega)] at h2; omega), if_neg (by rw [nI_le' (by omega) (by omega)] at h3; omega)] at hq; exact hq
    · skip
      refine Sp.go 2 (g := (53, [(0, .ref 10), (1, .int (nI h))], [.int 1])) rfl ?_
      refine Sp.iret rfl (Or.inl rfl) ?_
      rw [show a_state A h = (if A.T < A.at h then 1 else 2) from if_pos (by rw [nI_le0 (by omega)] at h2; omega), if_pos (by rw [nI_le' (by omega) (by omega)] at h3; omega)] at hq; exact hq
  · skip
    refine Sp.go 1 (g := (27, [(0, .ref 10), (1, .int (nI h))], [.ref 10])) rfl ?_
    refine Sp.get (v := .ref 16) rfl rfl rfl ?_
    refine Sp.go 1 (g := (31, [(0, .ref 10), (1, .int (nI h))], [.int (nI h), .ref 16])) rfl ?_
    refine Sp.iald (f := w.a 16) (j := h) rfl rfl (m_ix_of (by simp only [nI, Int32.ofNat_add, Int32.ofNat_mul] <;> rfl) (by omega) (by omega)) ?_
    rw [hj.fa hh]
    refine Sp.go 1 (g := (53, [(0, .ref 10), (1, .int (nI h))], [.int (nI (A.fa h))])) rfl ?_
    refine Sp.iret rfl (Or.inl rfl) ?_
    rw [show a_state A h = nI (A.fa h) from if_neg (by rw [nI_le0 (by omega)] at h2; omega)] at hq; exact hq
theorem d_state_out {X : mX} {C S : Nat} {Q : Outcome → mM → Prop} {w : mWd} {A : aS} (ho : a_ok A) (hj : JR0 w A) {x : Int32} (hx : a_in A x = false) (hq : Q (.returned (some (.int 0))) (mw (w.sf 5 0))) : Sp X 77 1 21 C S (0, [(0, .ref 10), (1, .int (x))], []) (mw w) Q := by
  refine Sp.go 2 (g := (2, [(0, .ref 10), (1, .int (x))], [.int 0, .ref 10])) rfl ?_
  refine Sp.pf5 rfl ?_
  refine Sp.go 2 (g := (7, [(0, .ref 10), (1, .int (x))], [.int (x), .ref 10])) rfl ?_
  refine Sp.vr (some (.int (m_b2 (!a_in A (x))))) (mw (w.sf 5 (0))) (k' := 71) (F' := 0) (N' := 0) (C' := 0) (S' := 0) (vs := [.int (x)]) (st := []) rfl rfl rfl rfl (Nat.le_of_ble_eq_true rfl) (Nat.le_of_ble_eq_true rfl) (by decide) (by decide) (Nat.zero_le _) (Nat.zero_le _) (fun Q' h => d_noParcel ho hj.t h) ?_
  refine Sp.ifb rfl (fun u1 => absurd u1 (by rw [hx]; decide)) (fun u1 => ?_)
  refine Sp.go 2 (g := (53, [(0, .ref 10), (1, .int (x))], [.int 0])) rfl ?_
  refine Sp.iret rfl (Or.inl rfl) ?_
  exact hq
theorem d_where {X : mX} {C S : Nat} {Q : Outcome → mM → Prop} {w : mWd} {A : aS} (ho : a_ok A) (hj : JR0 w A) {h : Nat} (hh : h < A.P) (hf : A.fa h ≤ 5) (hq : Q (.returned (some (.int (a_where A h)))) (mw (w.sf 5 0))) : Sp X 78 2 42 C S (0, [(0, .ref 10), (1, .int (nI h))], []) (mw w) Q := by
  have h32 := ho.2.2.1
  have hb4 := ho.2.2.2.2 h hh
  have hT := ho.1
  refine Sp.go 2 (g := (2, [(0, .ref 10), (1, .int (nI h))], [.int 0, .ref 10])) rfl ?_
  refine Sp.pf5 rfl ?_
  refine Sp.go 2 (g := (7, [(0, .ref 10), (1, .int (nI h))], [.int (nI h), .ref 10])) rfl ?_
  refine Sp.vr (some (.int (m_b2 (decide (A.fa h = 0))))) (mw (w.sf 5 (0))) (k' := 72) (F' := 1) (N' := 21) (C' := 0) (S' := 0) (vs := [.int (nI h)]) (st := []) rfl rfl rfl rfl (Nat.le_of_ble_eq_true rfl) (Nat.le_of_ble_eq_true rfl) (by decide) (by decide) (Nat.zero_le _) (Nat.zero_le _) (fun Q' h => d_isLive ho hj.t hh hf h) ?_
  refine Sp.ifb rfl (fun h1 => ?_) (fun h1 => ?_)
  · skip
    refine Sp.go 1 (g := (44, [(0, .ref 10), (1, .int (nI h))], [.int (-1)])) rfl ?_
    refine Sp.iret rfl (Or.inl rfl) ?_
    rw [show a_where A h = -1 from if_neg (fun z => absurd h1 (by simp [z.1]))] at hq; exact hq
  · skip
    refine Sp.go 1 (g := (14, [(0, .ref 10), (1, .int (nI h))], [.ref 10])) rfl ?_
    refine Sp.get (v := .int (nI (A.T))) rfl rfl (by rw [← hj.now]; rfl) ?_
    refine Sp.go 1 (g := (18, [(0, .ref 10), (1, .int (nI h))], [.ref 10, .int (nI (A.T))])) rfl ?_
    refine Sp.get (v := .ref 15) rfl rfl rfl ?_
    refine Sp.go 1 (g := (22, [(0, .ref 10), (1, .int (nI h))], [.int (nI h), .ref 15, .int (nI (A.T))])) rfl ?_
    refine Sp.iald (f := w.a 15) (j := h) rfl rfl (m_ix_of (by simp only [nI, Int32.ofNat_add, Int32.ofNat_mul] <;> rfl) (by omega) (by omega)) ?_
    rw [hj.sta hh]
    refine Sp.icmp rfl (fun (h2 : (nI (A.T) : Int32) < (nI (A.at h) : Int32)) => ?_) (fun (h2 : ¬ ((nI (A.T) : Int32) < (nI (A.at h) : Int32))) => ?_)
    · skip
      refine Sp.go 1 (g := (44, [(0, .ref 10), (1, .int (nI h))], [.int (-1)])) rfl ?_
      refine Sp.iret rfl (Or.inl rfl) ?_
      rw [show a_where A h = -1 from if_neg (fun z => by rw [nI_lt' (by omega) (by omega)] at h2; omega)] at hq; exact hq
    · skip
      refine Sp.go 1 (g := (27, [(0, .ref 10), (1, .int (nI h))], [.ref 10])) rfl ?_
      refine Sp.get (v := .ref 19) rfl rfl rfl ?_
      refine Sp.go 4 (g := (35, [(0, .ref 10), (1, .int (nI h))], [.ref 10, .int (65 * (nI h)), .ref 19])) rfl ?_
      refine Sp.get (v := .int (nI (A.T))) rfl rfl (by rw [← hj.now]; rfl) ?_
      refine Sp.go 1 (g := (39, [(0, .ref 10), (1, .int (nI h))], [.int ((65 * (nI h)) + (nI (A.T))), .ref 19])) rfl ?_
      refine Sp.iald (f := w.a 19) (j := (65 * h) + (A.T)) rfl rfl (m_ix_of (by simp only [nI, Int32.ofNat_add, Int32.ofNat_mul] <;> rfl) (by omega) (by omega)) ?_
      rw [hj.nd hh (by omega)]
      refine Sp.go 1 (g := (44, [(0, .ref 10), (1, .int (nI h))], [.int (nI (A.nd h A.T))])) rfl ?_
      refine Sp.iret rfl (Or.inl rfl) ?_
      rw [show a_where A h = nI (A.nd h A.T) from if_pos ⟨of_decide_eq_true h1, by rw [nI_lt' (by omega) (by omega)] at h2; omega⟩] at hq; exact hq
theorem d_where_out {X : mX} {C S : Nat} {Q : Outcome → mM → Prop} {w : mWd} {A : aS} (ho : a_ok A) (hj : JR0 w A) {x : Int32} (hx : a_in A x = false) (hq : Q (.returned (some (.int (-1)))) (mw (w.sf 5 0))) : Sp X 78 2 42 C S (0, [(0, .ref 10), (1, .int (x))], []) (mw w) Q := by
  refine Sp.go 2 (g := (2, [(0, .ref 10), (1, .int (x))], [.int 0, .ref 10])) rfl ?_
  refine Sp.pf5 rfl ?_
  refine Sp.go 2 (g := (7, [(0, .ref 10), (1, .int (x))], [.int (x), .ref 10])) rfl ?_
  refine Sp.vr (some (.int 0)) (mw (w.sf 5 (0))) (k' := 72) (F' := 1) (N' := 21) (C' := 0) (S' := 0) (vs := [.int (x)]) (st := []) rfl rfl rfl rfl (Nat.le_of_ble_eq_true rfl) (Nat.le_of_ble_eq_true rfl) (by decide) (by decide) (Nat.zero_le _) (Nat.zero_le _) (fun Q' h => d_isLive_out ho hj.t hx h) ?_
  refine Sp.if rfl (fun u1 => ?_) (fun u1 => absurd rfl u1)
  refine Sp.go 1 (g := (44, [(0, .ref 10), (1, .int (x))], [.int (-1)])) rfl ?_
  refine Sp.iret rfl (Or.inl rfl) ?_
  exact hq
theorem d_arrival {X : mX} {C S : Nat} {Q : Outcome → mM → Prop} {w : mWd} {A : aS} (ho : a_ok A) (hj : JR0 w A) {h : Nat} (hh : h < A.P) (hf : A.fa h ≤ 5) (hq : Q (.returned (some (.int (a_arrival A h)))) (mw (w.sf 5 0))) : Sp X 79 2 42 C S (0, [(0, .ref 10), (1, .int (nI h))], []) (mw w) Q := by
  have h32 := ho.2.2.1
  have hb4 := ho.2.2.2.2 h hh
  have hT := ho.1
  refine Sp.go 2 (g := (2, [(0, .ref 10), (1, .int (nI h))], [.int 0, .ref 10])) rfl ?_
  refine Sp.pf5 rfl ?_
  refine Sp.go 2 (g := (7, [(0, .ref 10), (1, .int (nI h))], [.int (nI h), .ref 10])) rfl ?_
  refine Sp.vr (some (.int (m_b2 (decide (A.fa h = 0))))) (mw (w.sf 5 (0))) (k' := 72) (F' := 1) (N' := 21) (C' := 0) (S' := 0) (vs := [.int (nI h)]) (st := []) rfl rfl rfl rfl (Nat.le_of_ble_eq_true rfl) (Nat.le_of_ble_eq_true rfl) (by decide) (by decide) (Nat.zero_le _) (Nat.zero_le _) (fun Q' h => d_isLive ho hj.t hh hf h) ?_
  refine Sp.ifbn rfl (fun h1 => ?_) (fun h1 => ?_)
  · skip
    refine Sp.go 1 (g := (32, [(0, .ref 10), (1, .int (nI h))], [.ref 10])) rfl ?_
    refine Sp.get (v := .ref 18) rfl rfl rfl ?_
    refine Sp.go 1 (g := (36, [(0, .ref 10), (1, .int (nI h))], [.int (nI h), .ref 18])) rfl ?_
    refine Sp.iald (f := w.a 18) (j := h) rfl rfl (m_ix_of (by simp only [nI, Int32.ofNat_add, Int32.ofNat_mul] <;> rfl) (by omega) (by omega)) ?_
    rw [hj.la hh]
    refine Sp.go 1 (g := (41, [(0, .ref 10), (1, .int (nI h))], [.int (nI (A.la h))])) rfl ?_
    refine Sp.iret rfl (Or.inl rfl) ?_
    rw [show a_arrival A h = nI (A.la h) from if_pos (Or.inl (of_decide_eq_true h1))] at hq; exact hq
  · skip
    refine Sp.go 2 (g := (15, [(0, .ref 10), (1, .int (nI h))], [.int (nI h), .ref 10])) rfl ?_
    refine Sp.vr (some (.int (m_b2 (!a_in A (nI h))))) (mw (w.sf 5 (0))) (k' := 71) (F' := 0) (N' := 0) (C' := 0) (S' := 0) (vs := [.int (nI h)]) (st := []) rfl rfl rfl rfl (Nat.le_of_ble_eq_true rfl) (Nat.le_of_ble_eq_true rfl) (by decide) (by decide) (Nat.zero_le _) (Nat.zero_le _) (fun Q' h => d_noParcel ho hj.t h) ?_
    refine Sp.ifbn rfl (fun u2 => absurd u2 (by rw [a_in_nI ho hh]; decide)) (fun u2 => ?_)
    refine Sp.go 1 (g := (22, [(0, .ref 10), (1, .int (nI h))], [.ref 10])) rfl ?_
    refine Sp.get (v := .ref 16) rfl rfl rfl ?_
    refine Sp.go 1 (g := (26, [(0, .ref 10), (1, .int (nI h))], [.int (nI h), .ref 16])) rfl ?_
    refine Sp.iald (f := w.a 16) (j := h) rfl rfl (m_ix_of (by simp only [nI, Int32.ofNat_add, Int32.ofNat_mul] <;> rfl) (by omega) (by omega)) ?_
    rw [hj.fa hh]
    refine Sp.go 1 (g := (28, [(0, .ref 10), (1, .int (nI h))], [.int 3, .int (nI (A.fa h))])) rfl ?_
    refine Sp.icmp rfl (fun (h3 : ¬ (nI (A.fa h) : Int32) = (3 : Int32)) => ?_) (fun (h3 : ¬ (¬ (nI (A.fa h) : Int32) = (3 : Int32))) => ?_)
    · skip
      refine Sp.go 1 (g := (41, [(0, .ref 10), (1, .int (nI h))], [.int (-1)])) rfl ?_
      refine Sp.iret rfl (Or.inl rfl) ?_
      rw [show a_arrival A h = -1 from if_neg (fun z => z.elim (fun z => absurd h1 (by simp [z])) (fun z => h3 (by rw [z]; rfl)))] at hq; exact hq
    · skip
      refine Sp.go 1 (g := (32, [(0, .ref 10), (1, .int (nI h))], [.ref 10])) rfl ?_
      refine Sp.get (v := .ref 18) rfl rfl rfl ?_
      refine Sp.go 1 (g := (36, [(0, .ref 10), (1, .int (nI h))], [.int (nI h), .ref 18])) rfl ?_
      refine Sp.iald (f := w.a 18) (j := h) rfl rfl (m_ix_of (by simp only [nI, Int32.ofNat_add, Int32.ofNat_mul] <;> rfl) (by omega) (by omega)) ?_
      rw [hj.la hh]
      refine Sp.go 1 (g := (41, [(0, .ref 10), (1, .int (nI h))], [.int (nI (A.la h))])) rfl ?_
      refine Sp.iret rfl (Or.inl rfl) ?_
      rw [show a_arrival A h = nI (A.la h) from if_pos (Or.inr ((nI_inj (b := 3) (by omega) (by omega)).mp (Classical.not_not.mp h3)))] at hq; exact hq
theorem d_arrival_out {X : mX} {C S : Nat} {Q : Outcome → mM → Prop} {w : mWd} {A : aS} (ho : a_ok A) (hj : JR0 w A) {x : Int32} (hx : a_in A x = false) (hq : Q (.returned (some (.int (-1)))) (mw (w.sf 5 0))) : Sp X 79 2 42 C S (0, [(0, .ref 10), (1, .int (x))], []) (mw w) Q := by
  refine Sp.go 2 (g := (2, [(0, .ref 10), (1, .int (x))], [.int 0, .ref 10])) rfl ?_
  refine Sp.pf5 rfl ?_
  refine Sp.go 2 (g := (7, [(0, .ref 10), (1, .int (x))], [.int (x), .ref 10])) rfl ?_
  refine Sp.vr (some (.int 0)) (mw (w.sf 5 (0))) (k' := 72) (F' := 1) (N' := 21) (C' := 0) (S' := 0) (vs := [.int (x)]) (st := []) rfl rfl rfl rfl (Nat.le_of_ble_eq_true rfl) (Nat.le_of_ble_eq_true rfl) (by decide) (by decide) (Nat.zero_le _) (Nat.zero_le _) (fun Q' h => d_isLive_out ho hj.t hx h) ?_
  refine Sp.if rfl (fun u1 => absurd u1 (fun z => z rfl)) (fun u1 => ?_)
  refine Sp.go 2 (g := (15, [(0, .ref 10), (1, .int (x))], [.int (x), .ref 10])) rfl ?_
  refine Sp.vr (some (.int (m_b2 (!a_in A (x))))) (mw (w.sf 5 (0))) (k' := 71) (F' := 0) (N' := 0) (C' := 0) (S' := 0) (vs := [.int (x)]) (st := []) rfl rfl rfl rfl (Nat.le_of_ble_eq_true rfl) (Nat.le_of_ble_eq_true rfl) (by decide) (by decide) (Nat.zero_le _) (Nat.zero_le _) (fun Q' h => d_noParcel ho hj.t h) ?_
  refine Sp.ifbn rfl (fun u2 => ?_) (fun u2 => absurd u2 (by rw [hx]; decide))
  refine Sp.go 1 (g := (41, [(0, .ref 10), (1, .int (x))], [.int (-1)])) rfl ?_
  refine Sp.iret rfl (Or.inl rfl) ?_
  exact hq
theorem a_step_ix {A : aS} {h : Nat} {x : Int32} (hl : A.la h ≤ 64) (h1 : ¬ x < nI (A.at h)) (h2 : x ≤ nI (A.la h)) (ha : A.at h < 64) : ∃ i, i < 65 ∧ x = nI i ∧ A.at h ≤ i ∧ i ≤ A.la h := by
  have h0 : ¬ x < 0 := by
    intro z
    rw [Int32.lt_iff_toInt_lt] at h1 z
    rw [nI_toInt (by omega)] at h1
    have : (0 : Int32).toInt = 0 := by decide
    omega
  have hx := m_nat h0
  have h3 : x.toNatClampNeg < 2 ^ 31 := by
    have := Int32.toInt_lt x
    show x.toInt.toNat < 2 ^ 31
    omega
  rw [hx] at h1 h2
  rw [nI_lt' h3 (by omega)] at h1
  rw [nI_le' h3 (by omega)] at h2
  exact ⟨x.toNatClampNeg, by omega, hx, by omega, h2⟩
theorem d_step1 {X : mX} {C S : Nat} {Q : Outcome → mM → Prop} {w : mWd} {A : aS} (ho : a_ok A) (hj : JR0 w A) {h : Nat} (hh : h < A.P) (hf : A.fa h ≤ 5) {x : Int32} (hx : ¬ (nI (A.at h) ≤ x ∧ x ≤ nI (A.la h))) (hq : Q (.returned (some (.int (-1)))) (mw (w.sf 5 0))) : Sp X 80 1 21 C S (0, [(0, .ref 10), (1, .int (nI h)), (2, .int (x))], []) (mw w) Q := by
  have h32 := ho.2.2.1
  have hb4 := ho.2.2.2.2 h hh
  have hT := ho.1
  refine Sp.go 2 (g := (2, [(0, .ref 10), (1, .int (nI h)), (2, .int (x))], [.int 0, .ref 10])) rfl ?_
  refine Sp.pf5 rfl ?_
  refine Sp.go 2 (g := (7, [(0, .ref 10), (1, .int (nI h)), (2, .int (x))], [.int (nI h), .ref 10])) rfl ?_
  refine Sp.vr (some (.int (m_b2 (!a_in A (nI h))))) (mw (w.sf 5 (0))) (k' := 71) (F' := 0) (N' := 0) (C' := 0) (S' := 0) (vs := [.int (nI h)]) (st := []) rfl rfl rfl rfl (Nat.le_of_ble_eq_true rfl) (Nat.le_of_ble_eq_true rfl) (by decide) (by decide) (Nat.zero_le _) (Nat.zero_le _) (fun Q' h => d_noParcel ho hj.t h) ?_
  refine Sp.ifbn rfl (fun u1 => absurd u1 (by rw [a_in_nI ho hh]; decide)) (fun u1 => ?_)
  refine Sp.go 2 (g := (15, [(0, .ref 10), (1, .int (nI h)), (2, .int (x))], [.ref 10, .int (x)])) rfl ?_
  refine Sp.get (v := .ref 17) rfl rfl rfl ?_
  refine Sp.go 1 (g := (19, [(0, .ref 10), (1, .int (nI h)), (2, .int (x))], [.int (nI h), .ref 17, .int (x)])) rfl ?_
  refine Sp.iald (f := w.a 17) (j := h) rfl rfl (m_ix_of (by simp only [nI, Int32.ofNat_add, Int32.ofNat_mul] <;> rfl) (by omega) (by omega)) ?_
  rw [hj.fir hh]
  refine Sp.icmp rfl (fun (h2 : (x : Int32) < (nI (A.at h) : Int32)) => ?_) (fun (h2 : ¬ ((x : Int32) < (nI (A.at h) : Int32))) => ?_)
  · skip
    refine Sp.go 2 (g := (48, [(0, .ref 10), (1, .int (nI h)), (2, .int (x))], [.int (-1)])) rfl ?_
    refine Sp.iret rfl (Or.inl rfl) ?_
    exact hq
  · skip
    refine Sp.go 2 (g := (25, [(0, .ref 10), (1, .int (nI h)), (2, .int (x))], [.ref 10, .int (x)])) rfl ?_
    refine Sp.get (v := .ref 18) rfl rfl rfl ?_
    refine Sp.go 1 (g := (29, [(0, .ref 10), (1, .int (nI h)), (2, .int (x))], [.int (nI h), .ref 18, .int (x)])) rfl ?_
    refine Sp.iald (f := w.a 18) (j := h) rfl rfl (m_ix_of (by simp only [nI, Int32.ofNat_add, Int32.ofNat_mul] <;> rfl) (by omega) (by omega)) ?_
    rw [hj.la hh]
    refine Sp.icmp rfl (fun u3 => absurd u3 (fun z => hx ⟨i_nlt h2, z⟩)) (fun u3 => ?_)
    refine Sp.go 2 (g := (48, [(0, .ref 10), (1, .int (nI h)), (2, .int (x))], [.int (-1)])) rfl ?_
    refine Sp.iret rfl (Or.inl rfl) ?_
    exact hq
theorem d_step2 {X : mX} {C S : Nat} {Q : Outcome → mM → Prop} {w : mWd} {A : aS} (ho : a_ok A) (hj : JR0 w A) {h : Nat} (hh : h < A.P) (hf : A.fa h ≤ 5) {i : Nat} (h1 : A.at h ≤ i) (h2 : i ≤ A.la h) (hq : Q (.returned (some (.int (nI (A.nd h i))))) (mw (w.sf 5 0))) : Sp X 80 1 21 C S (0, [(0, .ref 10), (1, .int (nI h)), (2, .int (nI i))], []) (mw w) Q := by
  have h32 := ho.2.2.1
  have hb4 := ho.2.2.2.2 h hh
  have hT := ho.1
  refine Sp.go 2 (g := (2, [(0, .ref 10), (1, .int (nI h)), (2, .int (nI i))], [.int 0, .ref 10])) rfl ?_
  refine Sp.pf5 rfl ?_
  refine Sp.go 2 (g := (7, [(0, .ref 10), (1, .int (nI h)), (2, .int (nI i))], [.int (nI h), .ref 10])) rfl ?_
  refine Sp.vr (some (.int (m_b2 (!a_in A (nI h))))) (mw (w.sf 5 (0))) (k' := 71) (F' := 0) (N' := 0) (C' := 0) (S' := 0) (vs := [.int (nI h)]) (st := []) rfl rfl rfl rfl (Nat.le_of_ble_eq_true rfl) (Nat.le_of_ble_eq_true rfl) (by decide) (by decide) (Nat.zero_le _) (Nat.zero_le _) (fun Q' h => d_noParcel ho hj.t h) ?_
  refine Sp.ifbn rfl (fun u1 => absurd u1 (by rw [a_in_nI ho hh]; decide)) (fun u1 => ?_)
  refine Sp.go 2 (g := (15, [(0, .ref 10), (1, .int (nI h)), (2, .int (nI i))], [.ref 10, .int (nI i)])) rfl ?_
  refine Sp.get (v := .ref 17) rfl rfl rfl ?_
  refine Sp.go 1 (g := (19, [(0, .ref 10), (1, .int (nI h)), (2, .int (nI i))], [.int (nI h), .ref 17, .int (nI i)])) rfl ?_
  refine Sp.iald (f := w.a 17) (j := h) rfl rfl (m_ix_of (by simp only [nI, Int32.ofNat_add, Int32.ofNat_mul] <;> rfl) (by omega) (by omega)) ?_
  rw [hj.fir hh]
  refine Sp.icmp rfl (fun u2 => absurd u2 (fun z => absurd ((nI_lt' (by omega) (by omega)).mp z) (by omega))) (fun u2 => ?_)
  refine Sp.go 2 (g := (25, [(0, .ref 10), (1, .int (nI h)), (2, .int (nI i))], [.ref 10, .int (nI i)])) rfl ?_
  refine Sp.get (v := .ref 18) rfl rfl rfl ?_
  refine Sp.go 1 (g := (29, [(0, .ref 10), (1, .int (nI h)), (2, .int (nI i))], [.int (nI h), .ref 18, .int (nI i)])) rfl ?_
  refine Sp.iald (f := w.a 18) (j := h) rfl rfl (m_ix_of (by simp only [nI, Int32.ofNat_add, Int32.ofNat_mul] <;> rfl) (by omega) (by omega)) ?_
  rw [hj.la hh]
  refine Sp.icmp rfl (fun u3 => ?_) (fun u3 => absurd ((nI_le' (by omega) (by omega)).mpr (by omega)) u3)
  refine Sp.go 1 (g := (38, [(0, .ref 10), (1, .int (nI h)), (2, .int (nI i))], [.ref 10])) rfl ?_
  refine Sp.get (v := .ref 19) rfl rfl rfl ?_
  refine Sp.go 5 (g := (47, [(0, .ref 10), (1, .int (nI h)), (2, .int (nI i))], [.int ((65 * (nI h)) + (nI i)), .ref 19])) rfl ?_
  refine Sp.iald (f := w.a 19) (j := (65 * h) + i) rfl rfl (m_ix_of (by simp only [nI, Int32.ofNat_add, Int32.ofNat_mul] <;> rfl) (by omega) (by omega)) ?_
  rw [hj.nd hh (by omega)]
  refine Sp.iret rfl (Or.inl rfl) ?_
  exact hq
theorem d_step {X : mX} {C S : Nat} {Q : Outcome → mM → Prop} {w : mWd} {A : aS} (ho : a_ok A) (hj : JR0 w A) {h : Nat} (hh : h < A.P) (hf : A.fa h ≤ 5) {x : Int32} (hq : Q (.returned (some (.int (a_step A h x)))) (mw (w.sf 5 0))) : Sp X 80 1 21 C S (0, [(0, .ref 10), (1, .int (nI h)), (2, .int (x))], []) (mw w) Q := by
  by_cases hx : nI (A.at h) ≤ x ∧ x ≤ nI (A.la h)
  · rw [show a_step A h x = _ from if_pos hx] at hq
    obtain ⟨i, hi, rfl, h1, h2⟩ := a_step_ix (ho.2.2.2.2 h hh).2.2.1 (i_nlt2 hx.1) hx.2 (ho.2.2.2.2 h hh).2.1
    rw [nI_clamp (by omega)] at hq
    exact d_step2 ho hj hh hf h1 h2 hq
  · rw [show a_step A h x = _ from if_neg hx] at hq
    exact d_step1 ho hj hh hf hx hq
theorem d_step_out {X : mX} {C S : Nat} {Q : Outcome → mM → Prop} {w : mWd} {A : aS} (ho : a_ok A) (hj : JR0 w A) {x y : Int32} (hx : a_in A x = false) (hq : Q (.returned (some (.int (-1)))) (mw (w.sf 5 0))) : Sp X 80 1 21 C S (0, [(0, .ref 10), (1, .int (x)), (2, .int (y))], []) (mw w) Q := by
  refine Sp.go 2 (g := (2, [(0, .ref 10), (1, .int (x)), (2, .int (y))], [.int 0, .ref 10])) rfl ?_
  refine Sp.pf5 rfl ?_
  refine Sp.go 2 (g := (7, [(0, .ref 10), (1, .int (x)), (2, .int (y))], [.int (x), .ref 10])) rfl ?_
  refine Sp.vr (some (.int (m_b2 (!a_in A (x))))) (mw (w.sf 5 (0))) (k' := 71) (F' := 0) (N' := 0) (C' := 0) (S' := 0) (vs := [.int (x)]) (st := []) rfl rfl rfl rfl (Nat.le_of_ble_eq_true rfl) (Nat.le_of_ble_eq_true rfl) (by decide) (by decide) (Nat.zero_le _) (Nat.zero_le _) (fun Q' h => d_noParcel ho hj.t h) ?_
  refine Sp.ifbn rfl (fun u1 => ?_) (fun u1 => absurd u1 (by rw [hx]; decide))
  refine Sp.go 2 (g := (48, [(0, .ref 10), (1, .int (x)), (2, .int (y))], [.int (-1)])) rfl ?_
  refine Sp.iret rfl (Or.inl rfl) ?_
  exact hq
theorem d_linkUsed {X : mX} {C S : Nat} {Q : Outcome → mM → Prop} {w : mWd} {A : aS} (ho : a_ok A) (hj : JR0 w A) {a b t : Nat} (ha : a < 8) (hb : b < 8) (ht : t < 64) (hp : a_pair A (nI a) (nI b) = true) (hq : Q (.returned (some (.int (nI (a_used A t a b))))) (mw (w.sf 5 0))) : Sp X 81 2 49 C S (0, [(0, .ref 10), (1, .int (nI a)), (2, .int (nI b)), (3, .int (nI t))], []) (mw w) Q := by
  refine Sp.go 2 (g := (2, [(0, .ref 10), (1, .int (nI a)), (2, .int (nI b)), (3, .int (nI t))], [.int 0, .ref 10])) rfl ?_
  refine Sp.pf5 rfl ?_
  refine Sp.go 3 (g := (8, [(0, .ref 10), (1, .int (nI a)), (2, .int (nI b)), (3, .int (nI t))], [.int (nI b), .int (nI a), .ref 10])) rfl ?_
  refine Sp.vr (some (.int (m_b2 (!a_pair A (nI a) (nI b))))) (mw (w.sf 5 (0))) (k' := 55) (F' := 1) (N' := 21) (C' := 0) (S' := 0) (vs := [.int (nI a), .int (nI b)]) (st := []) rfl rfl rfl rfl (Nat.le_of_ble_eq_true rfl) (Nat.le_of_ble_eq_true rfl) (by decide) (by decide) (Nat.zero_le _) (Nat.zero_le _) (fun Q' h => d_noPair ho hj.t h) ?_
  refine Sp.ifbn rfl (fun u1 => absurd u1 (by rw [hp]; decide)) (fun u1 => ?_)
  refine Sp.go 1 (g := (15, [(0, .ref 10), (1, .int (nI a)), (2, .int (nI b)), (3, .int (nI t))], [.int (nI t)])) rfl ?_
  refine Sp.sr (some (.int (m_b2 (!r_tick (nI t))))) (mw (w.sf 5 (0))) (k' := 56) (F' := 0) (N' := 0) (C' := 0) (S' := 0) (vs := [.int (nI t)]) (st := []) rfl (by decide) rfl (Nat.le_of_ble_eq_true rfl) (Nat.le_of_ble_eq_true rfl) (by decide) (by decide) (Nat.zero_le _) (Nat.zero_le _) (fun Q' h => d_noTick h) ?_
  refine Sp.ifb rfl (fun u2 => ?_) (fun u2 => absurd u2 (by rw [r_tick_nI ht]; decide))
  refine Sp.go 4 (g := (29, [(0, .ref 10), (1, .int (nI a)), (2, .int (nI b)), (3, .int (nI t))], [.int (nI b), .int (nI a), .int (nI t), .ref 10])) rfl ?_
  refine Sp.vr (some (.int (nI (a_used A t a b)))) (mw (w.sf 5 (0))) (k' := 60) (F' := 1) (N' := 24) (C' := 0) (S' := 0) (vs := [.int (nI t), .int (nI a), .int (nI b)]) (st := []) rfl rfl rfl rfl (Nat.le_of_ble_eq_true rfl) (Nat.le_of_ble_eq_true rfl) (by decide) (by decide) (Nat.zero_le _) (Nat.zero_le _) (fun Q' h => d_used ho hj.t (by omega) (by omega) (by omega) h) ?_
  refine Sp.iret rfl (Or.inl rfl) ?_
  exact hq
theorem d_open {X : mX} {C S : Nat} {Q : Outcome → mM → Prop} {w : mWd} {A : aS} (ho : a_ok A) (hj : JR0 w A) {a b t : Nat} (ha : a < 8) (hb : b < 8) (ht : t < 64) (hp : a_pair A (nI a) (nI b) = true) (hq : Q (.returned (some (.int (m_b2 (A.op a b t))))) (mw (w.sf 5 0))) : Sp X 83 2 43 C S (0, [(0, .ref 10), (1, .int (nI a)), (2, .int (nI b)), (3, .int (nI t))], []) (mw w) Q := by
  refine Sp.go 2 (g := (2, [(0, .ref 10), (1, .int (nI a)), (2, .int (nI b)), (3, .int (nI t))], [.int 0, .ref 10])) rfl ?_
  refine Sp.pf5 rfl ?_
  refine Sp.go 3 (g := (8, [(0, .ref 10), (1, .int (nI a)), (2, .int (nI b)), (3, .int (nI t))], [.int (nI b), .int (nI a), .ref 10])) rfl ?_
  refine Sp.vr (some (.int (m_b2 (!a_pair A (nI a) (nI b))))) (mw (w.sf 5 (0))) (k' := 55) (F' := 1) (N' := 21) (C' := 0) (S' := 0) (vs := [.int (nI a), .int (nI b)]) (st := []) rfl rfl rfl rfl (Nat.le_of_ble_eq_true rfl) (Nat.le_of_ble_eq_true rfl) (by decide) (by decide) (Nat.zero_le _) (Nat.zero_le _) (fun Q' h => d_noPair ho hj.t h) ?_
  refine Sp.ifbn rfl (fun u1 => absurd u1 (by rw [hp]; decide)) (fun u1 => ?_)
  refine Sp.go 1 (g := (15, [(0, .ref 10), (1, .int (nI a)), (2, .int (nI b)), (3, .int (nI t))], [.int (nI t)])) rfl ?_
  refine Sp.sr (some (.int (m_b2 (!r_tick (nI t))))) (mw (w.sf 5 (0))) (k' := 56) (F' := 0) (N' := 0) (C' := 0) (S' := 0) (vs := [.int (nI t)]) (st := []) rfl (by decide) rfl (Nat.le_of_ble_eq_true rfl) (Nat.le_of_ble_eq_true rfl) (by decide) (by decide) (Nat.zero_le _) (Nat.zero_le _) (fun Q' h => d_noTick h) ?_
  refine Sp.ifbn rfl (fun u2 => absurd u2 (by rw [r_tick_nI ht]; decide)) (fun u2 => ?_)
  refine Sp.go 4 (g := (25, [(0, .ref 10), (1, .int (nI a)), (2, .int (nI b)), (3, .int (nI t))], [.int (nI t), .int (nI b), .int (nI a), .ref 10])) rfl ?_
  refine Sp.vr (some (.int (m_b2 (A.op a b t)))) (mw (w.sf 5 (0))) (k' := 57) (F' := 0) (N' := 0) (C' := 0) (S' := 0) (vs := [.int (nI a), .int (nI b), .int (nI t)]) (st := []) rfl rfl rfl rfl (Nat.le_of_ble_eq_true rfl) (Nat.le_of_ble_eq_true rfl) (by decide) (by decide) (Nat.zero_le _) (Nat.zero_le _) (fun Q' h => d_isOpen ho hj.t (by omega) (by omega) (by omega) h) ?_
  refine Sp.ifb rfl (fun h3 => ?_) (fun h3 => ?_)
  · skip
    refine Sp.go 1 (g := (36, [(0, .ref 10), (1, .int (nI a)), (2, .int (nI b)), (3, .int (nI t))], [.int 0])) rfl ?_
    refine Sp.iret rfl (Or.inr ⟨rfl, Or.inl rfl⟩) ?_
    rw [h3] at hq; exact hq
  · skip
    refine Sp.go 2 (g := (36, [(0, .ref 10), (1, .int (nI a)), (2, .int (nI b)), (3, .int (nI t))], [.int 1])) rfl ?_
    refine Sp.iret rfl (Or.inr ⟨rfl, Or.inr rfl⟩) ?_
    rw [h3] at hq; exact hq
theorem d_stored {X : mX} {C S : Nat} {Q : Outcome → mM → Prop} {w : mWd} {A : aS} (ho : a_ok A) (hj : JR0 w A) {a t : Nat} (ha : a < 8) (ht : t < 64) (hp : a_isn A (nI a) = true) (hq : Q (.returned (some (.int (nI (a_used A t a a))))) (mw (w.sf 5 0))) : Sp X 82 2 49 C S (0, [(0, .ref 10), (1, .int (nI a)), (2, .int (nI t))], []) (mw w) Q := by
  refine Sp.go 2 (g := (2, [(0, .ref 10), (1, .int (nI a)), (2, .int (nI t))], [.int 0, .ref 10])) rfl ?_
  refine Sp.pf5 rfl ?_
  refine Sp.go 2 (g := (7, [(0, .ref 10), (1, .int (nI a)), (2, .int (nI t))], [.int (nI a), .ref 10])) rfl ?_
  refine Sp.vr (some (.int (m_b2 (!a_isn A (nI a))))) (mw (w.sf 5 (0))) (k' := 54) (F' := 0) (N' := 0) (C' := 0) (S' := 0) (vs := [.int (nI a)]) (st := []) rfl rfl rfl rfl (Nat.le_of_ble_eq_true rfl) (Nat.le_of_ble_eq_true rfl) (by decide) (by decide) (Nat.zero_le _) (Nat.zero_le _) (fun Q' h => d_noNode ho hj.t h) ?_
  refine Sp.ifbn rfl (fun u1 => absurd u1 (by rw [hp]; decide)) (fun u1 => ?_)
  refine Sp.go 1 (g := (14, [(0, .ref 10), (1, .int (nI a)), (2, .int (nI t))], [.int (nI t)])) rfl ?_
  refine Sp.sr (some (.int (m_b2 (!r_tick (nI t))))) (mw (w.sf 5 (0))) (k' := 56) (F' := 0) (N' := 0) (C' := 0) (S' := 0) (vs := [.int (nI t)]) (st := []) rfl (by decide) rfl (Nat.le_of_ble_eq_true rfl) (Nat.le_of_ble_eq_true rfl) (by decide) (by decide) (Nat.zero_le _) (Nat.zero_le _) (fun Q' h => d_noTick h) ?_
  refine Sp.ifb rfl (fun u2 => ?_) (fun u2 => absurd u2 (by rw [r_tick_nI ht]; decide))
  refine Sp.go 4 (g := (28, [(0, .ref 10), (1, .int (nI a)), (2, .int (nI t))], [.int (nI a), .int (nI a), .int (nI t), .ref 10])) rfl ?_
  refine Sp.vr (some (.int (nI (a_used A t a a)))) (mw (w.sf 5 (0))) (k' := 60) (F' := 1) (N' := 24) (C' := 0) (S' := 0) (vs := [.int (nI t), .int (nI a), .int (nI a)]) (st := []) rfl rfl rfl rfl (Nat.le_of_ble_eq_true rfl) (Nat.le_of_ble_eq_true rfl) (by decide) (by decide) (Nat.zero_le _) (Nat.zero_le _) (fun Q' h => d_used ho hj.t (by omega) (by omega) (by omega) h) ?_
  refine Sp.iret rfl (Or.inl rfl) ?_
  exact hq
theorem d_free {X : mX} {C S : Nat} {Q : Outcome → mM → Prop} {w : mWd} {A : aS} (ho : a_ok A) (hj : JR0 w A) {a t : Nat} (ha : a < 8) (ht : t < 64) (hp : a_isn A (nI a) = true) (hq : Q (.returned (some (.int (a_places (A.pl a) - nI (a_used A t a a))))) (mw (w.sf 5 0))) : Sp X 84 2 49 C S (0, [(0, .ref 10), (1, .int (nI a)), (2, .int (nI t))], []) (mw w) Q := by
  refine Sp.go 2 (g := (2, [(0, .ref 10), (1, .int (nI a)), (2, .int (nI t))], [.int 0, .ref 10])) rfl ?_
  refine Sp.pf5 rfl ?_
  refine Sp.go 2 (g := (7, [(0, .ref 10), (1, .int (nI a)), (2, .int (nI t))], [.int (nI a), .ref 10])) rfl ?_
  refine Sp.vr (some (.int (m_b2 (!a_isn A (nI a))))) (mw (w.sf 5 (0))) (k' := 54) (F' := 0) (N' := 0) (C' := 0) (S' := 0) (vs := [.int (nI a)]) (st := []) rfl rfl rfl rfl (Nat.le_of_ble_eq_true rfl) (Nat.le_of_ble_eq_true rfl) (by decide) (by decide) (Nat.zero_le _) (Nat.zero_le _) (fun Q' h => d_noNode ho hj.t h) ?_
  refine Sp.ifbn rfl (fun u1 => absurd u1 (by rw [hp]; decide)) (fun u1 => ?_)
  refine Sp.go 1 (g := (14, [(0, .ref 10), (1, .int (nI a)), (2, .int (nI t))], [.int (nI t)])) rfl ?_
  refine Sp.sr (some (.int (m_b2 (!r_tick (nI t))))) (mw (w.sf 5 (0))) (k' := 56) (F' := 0) (N' := 0) (C' := 0) (S' := 0) (vs := [.int (nI t)]) (st := []) rfl (by decide) rfl (Nat.le_of_ble_eq_true rfl) (Nat.le_of_ble_eq_true rfl) (by decide) (by decide) (Nat.zero_le _) (Nat.zero_le _) (fun Q' h => d_noTick h) ?_
  refine Sp.ifb rfl (fun u2 => ?_) (fun u2 => absurd u2 (by rw [r_tick_nI ht]; decide))
  refine Sp.go 1 (g := (25, [(0, .ref 10), (1, .int (nI a)), (2, .int (nI t))], [.ref 10])) rfl ?_
  refine Sp.get (v := .ref 11) rfl rfl rfl ?_
  refine Sp.go 1 (g := (29, [(0, .ref 10), (1, .int (nI a)), (2, .int (nI t))], [.int (nI a), .ref 11])) rfl ?_
  refine Sp.iald (f := w.a 11) (j := a) rfl rfl (m_ix_of (by simp only [nI, Int32.ofNat_add, Int32.ofNat_mul] <;> rfl) (by omega) (by omega)) ?_
  rw [hj.pl (by omega)]
  refine Sp.go 4 (g := (34, [(0, .ref 10), (1, .int (nI a)), (2, .int (nI t))], [.int (nI a), .int (nI a), .int (nI t), .ref 10, .int (a_places (A.pl a))])) rfl ?_
  refine Sp.vr (some (.int (nI (a_used A t a a)))) (mw (w.sf 5 (0))) (k' := 60) (F' := 1) (N' := 24) (C' := 0) (S' := 0) (vs := [.int (nI t), .int (nI a), .int (nI a)]) (st := [.int (a_places (A.pl a))]) rfl rfl rfl rfl (Nat.le_of_ble_eq_true rfl) (Nat.le_of_ble_eq_true rfl) (by decide) (by decide) (Nat.zero_le _) (Nat.zero_le _) (fun Q' h => d_used ho hj.t (by omega) (by omega) (by omega) h) ?_
  refine Sp.go 1 (g := (38, [(0, .ref 10), (1, .int (nI a)), (2, .int (nI t))], [.int ((a_places (A.pl a)) - (nI (a_used A t a a)))])) rfl ?_
  refine Sp.iret rfl (Or.inl rfl) ?_
  exact hq
theorem d_linkUsed_o1 {X : mX} {C S : Nat} {Q : Outcome → mM → Prop} {w : mWd} {A : aS} (ho : a_ok A) (hj : JR0 w A) {x y z : Int32} (hp : a_pair A x y = false) (hq : Q (.returned (some (.int (0)))) (mw (w.sf 5 0))) : Sp X 81 2 49 C S (0, [(0, .ref 10), (1, .int (x)), (2, .int (y)), (3, .int (z))], []) (mw w) Q := by
  refine Sp.go 2 (g := (2, [(0, .ref 10), (1, .int (x)), (2, .int (y)), (3, .int (z))], [.int 0, .ref 10])) rfl ?_
  refine Sp.pf5 rfl ?_
  refine Sp.go 3 (g := (8, [(0, .ref 10), (1, .int (x)), (2, .int (y)), (3, .int (z))], [.int (y), .int (x), .ref 10])) rfl ?_
  refine Sp.vr (some (.int (m_b2 (!a_pair A (x) (y))))) (mw (w.sf 5 (0))) (k' := 55) (F' := 1) (N' := 21) (C' := 0) (S' := 0) (vs := [.int (x), .int (y)]) (st := []) rfl rfl rfl rfl (Nat.le_of_ble_eq_true rfl) (Nat.le_of_ble_eq_true rfl) (by decide) (by decide) (Nat.zero_le _) (Nat.zero_le _) (fun Q' h => d_noPair ho hj.t h) ?_
  refine Sp.ifbn rfl (fun u1 => ?_) (fun u1 => absurd u1 (by rw [hp]; decide))
  refine Sp.go 2 (g := (32, [(0, .ref 10), (1, .int (x)), (2, .int (y)), (3, .int (z))], [.int 0])) rfl ?_
  refine Sp.iret rfl (Or.inl rfl) ?_
  exact hq
theorem d_linkUsed_o2 {X : mX} {C S : Nat} {Q : Outcome → mM → Prop} {w : mWd} {A : aS} (ho : a_ok A) (hj : JR0 w A) {x y z : Int32} (hp : a_pair A x y = true) (ht : r_tick z = false) (hq : Q (.returned (some (.int (0)))) (mw (w.sf 5 0))) : Sp X 81 2 49 C S (0, [(0, .ref 10), (1, .int (x)), (2, .int (y)), (3, .int (z))], []) (mw w) Q := by
  refine Sp.go 2 (g := (2, [(0, .ref 10), (1, .int (x)), (2, .int (y)), (3, .int (z))], [.int 0, .ref 10])) rfl ?_
  refine Sp.pf5 rfl ?_
  refine Sp.go 3 (g := (8, [(0, .ref 10), (1, .int (x)), (2, .int (y)), (3, .int (z))], [.int (y), .int (x), .ref 10])) rfl ?_
  refine Sp.vr (some (.int (m_b2 (!a_pair A (x) (y))))) (mw (w.sf 5 (0))) (k' := 55) (F' := 1) (N' := 21) (C' := 0) (S' := 0) (vs := [.int (x), .int (y)]) (st := []) rfl rfl rfl rfl (Nat.le_of_ble_eq_true rfl) (Nat.le_of_ble_eq_true rfl) (by decide) (by decide) (Nat.zero_le _) (Nat.zero_le _) (fun Q' h => d_noPair ho hj.t h) ?_
  refine Sp.ifbn rfl (fun u1 => absurd u1 (by rw [hp]; decide)) (fun u1 => ?_)
  refine Sp.go 1 (g := (15, [(0, .ref 10), (1, .int (x)), (2, .int (y)), (3, .int (z))], [.int (z)])) rfl ?_
  refine Sp.sr (some (.int (m_b2 (!r_tick (z))))) (mw (w.sf 5 (0))) (k' := 56) (F' := 0) (N' := 0) (C' := 0) (S' := 0) (vs := [.int (z)]) (st := []) rfl (by decide) rfl (Nat.le_of_ble_eq_true rfl) (Nat.le_of_ble_eq_true rfl) (by decide) (by decide) (Nat.zero_le _) (Nat.zero_le _) (fun Q' h => d_noTick h) ?_
  refine Sp.ifb rfl (fun u2 => absurd u2 (by rw [ht]; decide)) (fun u2 => ?_)
  refine Sp.go 2 (g := (32, [(0, .ref 10), (1, .int (x)), (2, .int (y)), (3, .int (z))], [.int 0])) rfl ?_
  refine Sp.iret rfl (Or.inl rfl) ?_
  exact hq
theorem d_open_o1 {X : mX} {C S : Nat} {Q : Outcome → mM → Prop} {w : mWd} {A : aS} (ho : a_ok A) (hj : JR0 w A) {x y z : Int32} (hp : a_pair A x y = false) (hq : Q (.returned (some (.int (0)))) (mw (w.sf 5 0))) : Sp X 83 2 43 C S (0, [(0, .ref 10), (1, .int (x)), (2, .int (y)), (3, .int (z))], []) (mw w) Q := by
  refine Sp.go 2 (g := (2, [(0, .ref 10), (1, .int (x)), (2, .int (y)), (3, .int (z))], [.int 0, .ref 10])) rfl ?_
  refine Sp.pf5 rfl ?_
  refine Sp.go 3 (g := (8, [(0, .ref 10), (1, .int (x)), (2, .int (y)), (3, .int (z))], [.int (y), .int (x), .ref 10])) rfl ?_
  refine Sp.vr (some (.int (m_b2 (!a_pair A (x) (y))))) (mw (w.sf 5 (0))) (k' := 55) (F' := 1) (N' := 21) (C' := 0) (S' := 0) (vs := [.int (x), .int (y)]) (st := []) rfl rfl rfl rfl (Nat.le_of_ble_eq_true rfl) (Nat.le_of_ble_eq_true rfl) (by decide) (by decide) (Nat.zero_le _) (Nat.zero_le _) (fun Q' h => d_noPair ho hj.t h) ?_
  refine Sp.ifbn rfl (fun u1 => ?_) (fun u1 => absurd u1 (by rw [hp]; decide))
  refine Sp.go 1 (g := (36, [(0, .ref 10), (1, .int (x)), (2, .int (y)), (3, .int (z))], [.int 0])) rfl ?_
  refine Sp.iret rfl (Or.inr ⟨rfl, Or.inl rfl⟩) ?_
  exact hq
theorem d_open_o2 {X : mX} {C S : Nat} {Q : Outcome → mM → Prop} {w : mWd} {A : aS} (ho : a_ok A) (hj : JR0 w A) {x y z : Int32} (hp : a_pair A x y = true) (ht : r_tick z = false) (hq : Q (.returned (some (.int (0)))) (mw (w.sf 5 0))) : Sp X 83 2 43 C S (0, [(0, .ref 10), (1, .int (x)), (2, .int (y)), (3, .int (z))], []) (mw w) Q := by
  refine Sp.go 2 (g := (2, [(0, .ref 10), (1, .int (x)), (2, .int (y)), (3, .int (z))], [.int 0, .ref 10])) rfl ?_
  refine Sp.pf5 rfl ?_
  refine Sp.go 3 (g := (8, [(0, .ref 10), (1, .int (x)), (2, .int (y)), (3, .int (z))], [.int (y), .int (x), .ref 10])) rfl ?_
  refine Sp.vr (some (.int (m_b2 (!a_pair A (x) (y))))) (mw (w.sf 5 (0))) (k' := 55) (F' := 1) (N' := 21) (C' := 0) (S' := 0) (vs := [.int (x), .int (y)]) (st := []) rfl rfl rfl rfl (Nat.le_of_ble_eq_true rfl) (Nat.le_of_ble_eq_true rfl) (by decide) (by decide) (Nat.zero_le _) (Nat.zero_le _) (fun Q' h => d_noPair ho hj.t h) ?_
  refine Sp.ifbn rfl (fun u1 => absurd u1 (by rw [hp]; decide)) (fun u1 => ?_)
  refine Sp.go 1 (g := (15, [(0, .ref 10), (1, .int (x)), (2, .int (y)), (3, .int (z))], [.int (z)])) rfl ?_
  refine Sp.sr (some (.int (m_b2 (!r_tick (z))))) (mw (w.sf 5 (0))) (k' := 56) (F' := 0) (N' := 0) (C' := 0) (S' := 0) (vs := [.int (z)]) (st := []) rfl (by decide) rfl (Nat.le_of_ble_eq_true rfl) (Nat.le_of_ble_eq_true rfl) (by decide) (by decide) (Nat.zero_le _) (Nat.zero_le _) (fun Q' h => d_noTick h) ?_
  refine Sp.ifbn rfl (fun u2 => ?_) (fun u2 => absurd u2 (by rw [ht]; decide))
  refine Sp.go 1 (g := (36, [(0, .ref 10), (1, .int (x)), (2, .int (y)), (3, .int (z))], [.int 0])) rfl ?_
  refine Sp.iret rfl (Or.inr ⟨rfl, Or.inl rfl⟩) ?_
  exact hq
theorem d_stored_o1 {X : mX} {C S : Nat} {Q : Outcome → mM → Prop} {w : mWd} {A : aS} (ho : a_ok A) (hj : JR0 w A) {x z : Int32} (hp : a_isn A x = false) (hq : Q (.returned (some (.int (0)))) (mw (w.sf 5 0))) : Sp X 82 2 49 C S (0, [(0, .ref 10), (1, .int (x)), (2, .int (z))], []) (mw w) Q := by
  refine Sp.go 2 (g := (2, [(0, .ref 10), (1, .int (x)), (2, .int (z))], [.int 0, .ref 10])) rfl ?_
  refine Sp.pf5 rfl ?_
  refine Sp.go 2 (g := (7, [(0, .ref 10), (1, .int (x)), (2, .int (z))], [.int (x), .ref 10])) rfl ?_
  refine Sp.vr (some (.int (m_b2 (!a_isn A (x))))) (mw (w.sf 5 (0))) (k' := 54) (F' := 0) (N' := 0) (C' := 0) (S' := 0) (vs := [.int (x)]) (st := []) rfl rfl rfl rfl (Nat.le_of_ble_eq_true rfl) (Nat.le_of_ble_eq_true rfl) (by decide) (by decide) (Nat.zero_le _) (Nat.zero_le _) (fun Q' h => d_noNode ho hj.t h) ?_
  refine Sp.ifbn rfl (fun u1 => ?_) (fun u1 => absurd u1 (by rw [hp]; decide))
  refine Sp.go 2 (g := (31, [(0, .ref 10), (1, .int (x)), (2, .int (z))], [.int 0])) rfl ?_
  refine Sp.iret rfl (Or.inl rfl) ?_
  exact hq
theorem d_stored_o2 {X : mX} {C S : Nat} {Q : Outcome → mM → Prop} {w : mWd} {A : aS} (ho : a_ok A) (hj : JR0 w A) {x z : Int32} (hp : a_isn A x = true) (ht : r_tick z = false) (hq : Q (.returned (some (.int (0)))) (mw (w.sf 5 0))) : Sp X 82 2 49 C S (0, [(0, .ref 10), (1, .int (x)), (2, .int (z))], []) (mw w) Q := by
  refine Sp.go 2 (g := (2, [(0, .ref 10), (1, .int (x)), (2, .int (z))], [.int 0, .ref 10])) rfl ?_
  refine Sp.pf5 rfl ?_
  refine Sp.go 2 (g := (7, [(0, .ref 10), (1, .int (x)), (2, .int (z))], [.int (x), .ref 10])) rfl ?_
  refine Sp.vr (some (.int (m_b2 (!a_isn A (x))))) (mw (w.sf 5 (0))) (k' := 54) (F' := 0) (N' := 0) (C' := 0) (S' := 0) (vs := [.int (x)]) (st := []) rfl rfl rfl rfl (Nat.le_of_ble_eq_true rfl) (Nat.le_of_ble_eq_true rfl) (by decide) (by decide) (Nat.zero_le _) (Nat.zero_le _) (fun Q' h => d_noNode ho hj.t h) ?_
  refine Sp.ifbn rfl (fun u1 => absurd u1 (by rw [hp]; decide)) (fun u1 => ?_)
  refine Sp.go 1 (g := (14, [(0, .ref 10), (1, .int (x)), (2, .int (z))], [.int (z)])) rfl ?_
  refine Sp.sr (some (.int (m_b2 (!r_tick (z))))) (mw (w.sf 5 (0))) (k' := 56) (F' := 0) (N' := 0) (C' := 0) (S' := 0) (vs := [.int (z)]) (st := []) rfl (by decide) rfl (Nat.le_of_ble_eq_true rfl) (Nat.le_of_ble_eq_true rfl) (by decide) (by decide) (Nat.zero_le _) (Nat.zero_le _) (fun Q' h => d_noTick h) ?_
  refine Sp.ifb rfl (fun u2 => absurd u2 (by rw [ht]; decide)) (fun u2 => ?_)
  refine Sp.go 2 (g := (31, [(0, .ref 10), (1, .int (x)), (2, .int (z))], [.int 0])) rfl ?_
  refine Sp.iret rfl (Or.inl rfl) ?_
  exact hq
theorem d_free_o1 {X : mX} {C S : Nat} {Q : Outcome → mM → Prop} {w : mWd} {A : aS} (ho : a_ok A) (hj : JR0 w A) {x z : Int32} (hp : a_isn A x = false) (hq : Q (.returned (some (.int (-1)))) (mw (w.sf 5 0))) : Sp X 84 2 49 C S (0, [(0, .ref 10), (1, .int (x)), (2, .int (z))], []) (mw w) Q := by
  refine Sp.go 2 (g := (2, [(0, .ref 10), (1, .int (x)), (2, .int (z))], [.int 0, .ref 10])) rfl ?_
  refine Sp.pf5 rfl ?_
  refine Sp.go 2 (g := (7, [(0, .ref 10), (1, .int (x)), (2, .int (z))], [.int (x), .ref 10])) rfl ?_
  refine Sp.vr (some (.int (m_b2 (!a_isn A (x))))) (mw (w.sf 5 (0))) (k' := 54) (F' := 0) (N' := 0) (C' := 0) (S' := 0) (vs := [.int (x)]) (st := []) rfl rfl rfl rfl (Nat.le_of_ble_eq_true rfl) (Nat.le_of_ble_eq_true rfl) (by decide) (by decide) (Nat.zero_le _) (Nat.zero_le _) (fun Q' h => d_noNode ho hj.t h) ?_
  refine Sp.ifbn rfl (fun u1 => ?_) (fun u1 => absurd u1 (by rw [hp]; decide))
  refine Sp.go 2 (g := (38, [(0, .ref 10), (1, .int (x)), (2, .int (z))], [.int (-1)])) rfl ?_
  refine Sp.iret rfl (Or.inl rfl) ?_
  exact hq
theorem d_free_o2 {X : mX} {C S : Nat} {Q : Outcome → mM → Prop} {w : mWd} {A : aS} (ho : a_ok A) (hj : JR0 w A) {x z : Int32} (hp : a_isn A x = true) (ht : r_tick z = false) (hq : Q (.returned (some (.int (-1)))) (mw (w.sf 5 0))) : Sp X 84 2 49 C S (0, [(0, .ref 10), (1, .int (x)), (2, .int (z))], []) (mw w) Q := by
  refine Sp.go 2 (g := (2, [(0, .ref 10), (1, .int (x)), (2, .int (z))], [.int 0, .ref 10])) rfl ?_
  refine Sp.pf5 rfl ?_
  refine Sp.go 2 (g := (7, [(0, .ref 10), (1, .int (x)), (2, .int (z))], [.int (x), .ref 10])) rfl ?_
  refine Sp.vr (some (.int (m_b2 (!a_isn A (x))))) (mw (w.sf 5 (0))) (k' := 54) (F' := 0) (N' := 0) (C' := 0) (S' := 0) (vs := [.int (x)]) (st := []) rfl rfl rfl rfl (Nat.le_of_ble_eq_true rfl) (Nat.le_of_ble_eq_true rfl) (by decide) (by decide) (Nat.zero_le _) (Nat.zero_le _) (fun Q' h => d_noNode ho hj.t h) ?_
  refine Sp.ifbn rfl (fun u1 => absurd u1 (by rw [hp]; decide)) (fun u1 => ?_)
  refine Sp.go 1 (g := (14, [(0, .ref 10), (1, .int (x)), (2, .int (z))], [.int (z)])) rfl ?_
  refine Sp.sr (some (.int (m_b2 (!r_tick (z))))) (mw (w.sf 5 (0))) (k' := 56) (F' := 0) (N' := 0) (C' := 0) (S' := 0) (vs := [.int (z)]) (st := []) rfl (by decide) rfl (Nat.le_of_ble_eq_true rfl) (Nat.le_of_ble_eq_true rfl) (by decide) (by decide) (Nat.zero_le _) (Nat.zero_le _) (fun Q' h => d_noTick h) ?_
  refine Sp.ifb rfl (fun u2 => absurd u2 (by rw [ht]; decide)) (fun u2 => ?_)
  refine Sp.go 2 (g := (38, [(0, .ref 10), (1, .int (x)), (2, .int (z))], [.int (-1)])) rfl ?_
  refine Sp.iret rfl (Or.inl rfl) ?_
  exact hq
end
section
/-! The reference: what changes it. Rows laid by wip/gen/model5.py. -/
def aS.node (A : aS) (n c : Nat) : aS := (A.T, A.nc, A.P, fun m => if m = n then some c else A.pl m, A.op, A.go, A.at, A.la, A.fa, A.nd)
def aS.opn (A : aS) (a b s e : Nat) (v : Bool) : aS := (A.T, A.nc, A.P, A.pl, fun x y t => if ((x = a ∧ y = b) ∨ (x = b ∧ y = a)) ∧ s ≤ t ∧ t < e then v else A.op x y t, A.go, A.at, A.la, A.fa, A.nd)
def aS.ncs (A : aS) : aS := (A.T, A.nc + 1, A.P, A.pl, A.op, A.go, A.at, A.la, A.fa, A.nd)
def aS.end (A : aS) (h l f : Nat) : aS := (A.T, A.nc, A.P, A.pl, A.op, A.go, A.at, fun j => if j = h then l else A.la j, fun j => if j = h then f else A.fa j, A.nd)
def aS.tick (A : aS) : aS := (A.T + 1, A.nc, A.P, A.pl, A.op, A.go, A.at, A.la, fun j => if A.fa j = 0 ∧ A.la j = A.T + 1 then 3 else A.fa j, A.nd)
def aS.book (A : aS) (g s e : Nat) (r : Nat → Nat) : aS := (A.T, A.nc, A.P + 1, A.pl, A.op, fun j => if j = A.P then g else A.go j, fun j => if j = A.P then s else A.at j, fun j => if j = A.P then e else A.la j, fun j => if j = A.P then 0 else A.fa j, fun j => if j = A.P then r else A.nd j)
def a_many (A : aS) : Nat := g_cnt (fun n => (A.pl n).isSome) 8
/-- where a journey that is cut off ends -/
def a_cutla (A : aS) (h : Nat) : Nat := if A.T < A.at h then A.at h - 1 else A.T
theorem d_cnt {X : mX} {C S : Nat} {Q : Outcome → mM → Prop} {w : mWd} {A : aS} (ho : a_ok A) (hj : JR0 w A) {x y : Int32} : ∀ (d k c : Nat), k + d = 8 → c = g_cnt (fun n => (A.pl n).isSome) k → Q (.returned (some (.int (nI (a_many A))))) (mw w) → Sp X 65 0 0 C S (69, [(4, .int (nI k)), (3, .int (nI c)), (0, .ref 10), (1, .int (x)), (2, .int (y))], []) (mw w) Q := by
  intro d
  induction d with
  | zero =>
    intro k c hk hc hq
    refine Sp.go 2 (g := (73, [(4, .int (nI k)), (3, .int (nI c)), (0, .ref 10), (1, .int (x)), (2, .int (y))], [.int 8, .int (nI k)])) rfl ?_
    refine Sp.icmp rfl (fun u1 => ?_) (fun u1 => absurd ((nI_le' (a := 8) (b := k) (by omega) (by omega)).mpr (by omega)) u1)
    refine Sp.go 1 (g := (101, [(4, .int (nI k)), (3, .int (nI c)), (0, .ref 10), (1, .int (x)), (2, .int (y))], [.int (nI c)])) rfl ?_
    refine Sp.iret rfl (Or.inl rfl) ?_
    rw [hc, show k = 8 by omega]; exact hq
  | succ d ih =>
    intro k c hk hc hq
    have hcl : c ≤ k := by rw [hc]; exact g_cnt_le _ _
    refine Sp.go 2 (g := (73, [(4, .int (nI k)), (3, .int (nI c)), (0, .ref 10), (1, .int (x)), (2, .int (y))], [.int 8, .int (nI k)])) rfl ?_
    refine Sp.icmp rfl (fun u1 => absurd u1 (fun q => absurd ((nI_le' (a := 8) (b := k) (by omega) (by omega)).mp q) (by omega))) (fun u1 => ?_)
    refine Sp.go 1 (g := (77, [(4, .int (nI k)), (3, .int (nI c)), (0, .ref 10), (1, .int (x)), (2, .int (y))], [.ref 10])) rfl ?_
    refine Sp.get (v := .ref 11) rfl rfl rfl ?_
    refine Sp.go 1 (g := (82, [(4, .int (nI k)), (3, .int (nI c)), (0, .ref 10), (1, .int (x)), (2, .int (y))], [.int (nI k), .ref 11])) rfl ?_
    refine Sp.iald (f := w.a 11) (j := k) rfl rfl (m_ix_of (by simp only [nI, Int32.ofNat_add, Int32.ofNat_mul] <;> rfl) (by omega) (by omega)) ?_
    rw [hj.pl (by omega)]
    refine Sp.if rfl (fun (h2 : (a_places (A.pl k) : Int32) < (0 : Int32)) => ?_) (fun (h2 : ¬ ((a_places (A.pl k) : Int32) < (0 : Int32))) => ?_)
    · skip
      refine Sp.go 4 (g := (69, [(4, .int (nI k + 1)), (3, .int (nI c)), (0, .ref 10), (1, .int (x)), (2, .int (y))], [])) rfl ?_
      rw [show nI k + 1 = nI (k + 1) from (nI_succ k).symm]
      have e1 : (A.pl k).isSome = false := by cases hb : (A.pl k).isSome with | false => rfl | true => exact absurd h2 (i_nlt2 ((a_places_neg _ (fun c hc => ho.2.2.2.1 k c hc)).mpr hb))
      refine ih (k + 1) _ (by omega) ?_ hq
      simp only [g_cnt, ← hc, e1]; rfl
    · skip
      refine Sp.go 7 (g := (69, [(4, .int (nI k + 1)), (3, .int ((nI c) + 1)), (0, .ref 10), (1, .int (x)), (2, .int (y))], [])) rfl ?_
      rw [show nI c + 1 = nI (c + 1) from (nI_succ c).symm]
      rw [show nI k + 1 = nI (k + 1) from (nI_succ k).symm]
      have e1 : (A.pl k).isSome = true := (a_places_neg _ (fun c hc => ho.2.2.2.1 k c hc)).mp (i_nlt h2)
      refine ih (k + 1) _ (by omega) ?_ hq
      simp only [g_cnt, ← hc, e1]; rfl
theorem d_node_b1 {X : mX} {C S : Nat} {Q : Outcome → mM → Prop} {w : mWd} {x y : Int32} (hb : x < 0 ∨ (7 : Int32) < x ∨ y < 0 ∨ (4 : Int32) < y) (hq : Q (.returned (some (.int 0))) (mw (w.sf 5 1))) : Sp X 65 0 0 C S (0, [(0, .ref 10), (1, .int (x)), (2, .int (y))], []) (mw w) Q := by
  refine Sp.go 2 (g := (2, [(0, .ref 10), (1, .int (x)), (2, .int (y))], [.int (x), .ref 10])) rfl ?_
  refine Sp.if rfl (fun (h1 : (x : Int32) < (0 : Int32)) => ?_) (fun (h1 : ¬ ((x : Int32) < (0 : Int32))) => ?_)
  · skip
    refine Sp.go 2 (g := (45, [(0, .ref 10), (1, .int (x)), (2, .int (y))], [.int 1, .ref 10])) rfl ?_
    refine Sp.pf5 rfl ?_
    refine Sp.go 1 (g := (49, [(0, .ref 10), (1, .int (x)), (2, .int (y))], [.ref 10])) rfl ?_
    refine Sp.get (v := .int 1) rfl rfl rfl ?_
    refine Sp.if rfl (fun u2 => absurd u2 (show ¬ (1 : Int32) ≤ 0 by decide)) (fun u2 => ?_)
    refine Sp.go 1 (g := (56, [(0, .ref 10), (1, .int (x)), (2, .int (y))], [.int 0])) rfl ?_
    refine Sp.iret rfl (Or.inl rfl) ?_
    exact hq
  · skip
    refine Sp.go 2 (g := (8, [(0, .ref 10), (1, .int (x)), (2, .int (y))], [.int 7, .int (x), .ref 10])) rfl ?_
    refine Sp.icmp rfl (fun (h3 : (7 : Int32) < (x : Int32)) => ?_) (fun (h3 : ¬ ((7 : Int32) < (x : Int32))) => ?_)
    · skip
      refine Sp.go 2 (g := (45, [(0, .ref 10), (1, .int (x)), (2, .int (y))], [.int 1, .ref 10])) rfl ?_
      refine Sp.pf5 rfl ?_
      refine Sp.go 1 (g := (49, [(0, .ref 10), (1, .int (x)), (2, .int (y))], [.ref 10])) rfl ?_
      refine Sp.get (v := .int 1) rfl rfl rfl ?_
      refine Sp.if rfl (fun u4 => absurd u4 (show ¬ (1 : Int32) ≤ 0 by decide)) (fun u4 => ?_)
      refine Sp.go 1 (g := (56, [(0, .ref 10), (1, .int (x)), (2, .int (y))], [.int 0])) rfl ?_
      refine Sp.iret rfl (Or.inl rfl) ?_
      exact hq
    · skip
      refine Sp.go 1 (g := (12, [(0, .ref 10), (1, .int (x)), (2, .int (y))], [.int (y), .ref 10])) rfl ?_
      refine Sp.if rfl (fun (h5 : (y : Int32) < (0 : Int32)) => ?_) (fun (h5 : ¬ ((y : Int32) < (0 : Int32))) => ?_)
      · skip
        refine Sp.go 2 (g := (45, [(0, .ref 10), (1, .int (x)), (2, .int (y))], [.int 1, .ref 10])) rfl ?_
        refine Sp.pf5 rfl ?_
        refine Sp.go 1 (g := (49, [(0, .ref 10), (1, .int (x)), (2, .int (y))], [.ref 10])) rfl ?_
        refine Sp.get (v := .int 1) rfl rfl rfl ?_
        refine Sp.if rfl (fun u6 => absurd u6 (show ¬ (1 : Int32) ≤ 0 by decide)) (fun u6 => ?_)
        refine Sp.go 1 (g := (56, [(0, .ref 10), (1, .int (x)), (2, .int (y))], [.int 0])) rfl ?_
        refine Sp.iret rfl (Or.inl rfl) ?_
        exact hq
      · skip
        refine Sp.go 2 (g := (17, [(0, .ref 10), (1, .int (x)), (2, .int (y))], [.int 4, .int (y), .ref 10])) rfl ?_
        refine Sp.icmp rfl (fun (h7 : (y : Int32) ≤ (4 : Int32)) => ?_) (fun (h7 : ¬ ((y : Int32) ≤ (4 : Int32))) => ?_)
        · skip
          rcases hb with q | q | q | q
          · contradiction
          · contradiction
          · contradiction
          · exact absurd q (i_nlt2 (by assumption))
        · skip
          refine Sp.go 2 (g := (45, [(0, .ref 10), (1, .int (x)), (2, .int (y))], [.int 1, .ref 10])) rfl ?_
          refine Sp.pf5 rfl ?_
          refine Sp.go 1 (g := (49, [(0, .ref 10), (1, .int (x)), (2, .int (y))], [.ref 10])) rfl ?_
          refine Sp.get (v := .int 1) rfl rfl rfl ?_
          refine Sp.if rfl (fun u8 => absurd u8 (show ¬ (1 : Int32) ≤ 0 by decide)) (fun u8 => ?_)
          refine Sp.go 1 (g := (56, [(0, .ref 10), (1, .int (x)), (2, .int (y))], [.int 0])) rfl ?_
          refine Sp.iret rfl (Or.inl rfl) ?_
          exact hq
theorem d_node_b2 {X : mX} {C S : Nat} {Q : Outcome → mM → Prop} {w : mWd} {A : aS} (ho : a_ok A) (hj : JR0 w A) {n c : Nat} (hn : n < 8) (hc : c ≤ 4) (hb : (A.pl n).isSome = true ∨ 0 < A.nc) (hq : Q (.returned (some (.int 0))) (mw (w.sf 5 2))) : Sp X 65 0 0 C S (0, [(0, .ref 10), (1, .int (nI n)), (2, .int (nI c))], []) (mw w) Q := by
  have hnc := ho.2.1
  refine Sp.go 2 (g := (2, [(0, .ref 10), (1, .int (nI n)), (2, .int (nI c))], [.int (nI n), .ref 10])) rfl ?_
  refine Sp.if rfl (fun u1 => absurd u1 (nI_pos (by omega))) (fun u1 => ?_)
  refine Sp.go 2 (g := (8, [(0, .ref 10), (1, .int (nI n)), (2, .int (nI c))], [.int 7, .int (nI n), .ref 10])) rfl ?_
  refine Sp.icmp rfl (fun u2 => absurd u2 (fun z => absurd ((nI_lt' (a := 7) (by omega) (by omega)).mp z) (by omega))) (fun u2 => ?_)
  refine Sp.go 1 (g := (12, [(0, .ref 10), (1, .int (nI n)), (2, .int (nI c))], [.int (nI c), .ref 10])) rfl ?_
  refine Sp.if rfl (fun u3 => absurd u3 (nI_pos (by omega))) (fun u3 => ?_)
  refine Sp.go 2 (g := (17, [(0, .ref 10), (1, .int (nI n)), (2, .int (nI c))], [.int 4, .int (nI c), .ref 10])) rfl ?_
  refine Sp.icmp rfl (fun u4 => ?_) (fun u4 => absurd ((nI_le' (b := 4) (by omega) (by omega)).mpr (by omega)) u4)
  refine Sp.go 1 (g := (25, [(0, .ref 10), (1, .int (nI n)), (2, .int (nI c))], [.ref 10, .ref 10])) rfl ?_
  refine Sp.get (v := .ref 11) rfl rfl rfl ?_
  refine Sp.go 1 (g := (29, [(0, .ref 10), (1, .int (nI n)), (2, .int (nI c))], [.int (nI n), .ref 11, .ref 10])) rfl ?_
  refine Sp.iald (f := w.a 11) (j := n) rfl rfl (m_ix_of (by simp only [nI, Int32.ofNat_add, Int32.ofNat_mul] <;> rfl) (by omega) (by omega)) ?_
  rw [hj.pl (by omega)]
  refine Sp.if rfl (fun (h5 : (0 : Int32) ≤ (a_places (A.pl n) : Int32)) => ?_) (fun (h5 : ¬ ((0 : Int32) ≤ (a_places (A.pl n) : Int32))) => ?_)
  · skip
    refine Sp.go 2 (g := (45, [(0, .ref 10), (1, .int (nI n)), (2, .int (nI c))], [.int 2, .ref 10])) rfl ?_
    refine Sp.pf5 rfl ?_
    refine Sp.go 1 (g := (49, [(0, .ref 10), (1, .int (nI n)), (2, .int (nI c))], [.ref 10])) rfl ?_
    refine Sp.get (v := .int 2) rfl rfl rfl ?_
    refine Sp.if rfl (fun u6 => absurd u6 (show ¬ (2 : Int32) ≤ 0 by decide)) (fun u6 => ?_)
    refine Sp.go 1 (g := (56, [(0, .ref 10), (1, .int (nI n)), (2, .int (nI c))], [.int 0])) rfl ?_
    refine Sp.iret rfl (Or.inl rfl) ?_
    exact hq
  · skip
    refine Sp.go 1 (g := (34, [(0, .ref 10), (1, .int (nI n)), (2, .int (nI c))], [.ref 10, .ref 10])) rfl ?_
    refine Sp.get (v := .int (nI (A.nc))) rfl rfl (by rw [← hj.cs]; rfl) ?_
    refine Sp.if rfl (fun (h7 : (nI (A.nc) : Int32) ≤ (0 : Int32)) => ?_) (fun (h7 : ¬ ((nI (A.nc) : Int32) ≤ (0 : Int32))) => ?_)
    · skip
      rcases hb with q | q
      · exact absurd ((a_places_neg _ (fun c hc => ho.2.2.2.1 n c hc)).mpr q) h5
      · exact absurd ((nI_le0 (by omega)).mp ‹nI A.nc ≤ 0›) (by omega)
    · skip
      refine Sp.go 2 (g := (45, [(0, .ref 10), (1, .int (nI n)), (2, .int (nI c))], [.int 2, .ref 10])) rfl ?_
      refine Sp.pf5 rfl ?_
      refine Sp.go 1 (g := (49, [(0, .ref 10), (1, .int (nI n)), (2, .int (nI c))], [.ref 10])) rfl ?_
      refine Sp.get (v := .int 2) rfl rfl rfl ?_
      refine Sp.if rfl (fun u8 => absurd u8 (show ¬ (2 : Int32) ≤ 0 by decide)) (fun u8 => ?_)
      refine Sp.go 1 (g := (56, [(0, .ref 10), (1, .int (nI n)), (2, .int (nI c))], [.int 0])) rfl ?_
      refine Sp.iret rfl (Or.inl rfl) ?_
      exact hq
theorem JR.node {w : mWd} {A : aS} (hj : JR w A) (n c : Nat) (v : Int32) : JR ((w.sf 5 v).sa 11 (upd (w.a 11) n (nI c))) (A.node n c) := by
  obtain ⟨⟨h1, h2, h3, h4, h5, h6, _⟩, h7⟩ := hj
  refine ⟨⟨h1, h2, h3, fun m hm => ?_, h5, h6, trivial⟩, h7⟩
  show upd (w.a 11) n (nI c) m = a_places (if m = n then some c else A.pl m)
  unfold upd
  split
  · rfl
  · exact h4 m hm
theorem a_ok.node {A : aS} (ho : a_ok A) {n c : Nat} (hc : c ≤ 4) : a_ok (A.node n c) := by
  obtain ⟨h1, h2, h3, h4, h5⟩ := ho
  refine ⟨h1, h2, h3, fun m c' h => ?_, h5⟩
  have h : (if m = n then some c else A.pl m) = some c' := h
  split at h
  · cases h; exact hc
  · exact h4 m c' h
theorem d_node_ok {X : mX} {C S : Nat} {Q : Outcome → mM → Prop} {w : mWd} {A : aS} (ho : a_ok A) (hj : JR w A) {n c : Nat} (hn : n < 8) (hc : c ≤ 4) (hb : (A.pl n).isSome = false) (h0 : A.nc = 0) (hq : Q (.returned (some (.int (nI (a_many (A.node n c)))))) (mw ((w.sf 5 0).sa 11 (upd (w.a 11) n (nI c))))) : Sp X 65 0 0 C S (0, [(0, .ref 10), (1, .int (nI n)), (2, .int (nI c))], []) (mw w) Q := by
  have hnc := ho.2.1
  refine Sp.go 2 (g := (2, [(0, .ref 10), (1, .int (nI n)), (2, .int (nI c))], [.int (nI n), .ref 10])) rfl ?_
  refine Sp.if rfl (fun u1 => absurd u1 (nI_pos (by omega))) (fun u1 => ?_)
  refine Sp.go 2 (g := (8, [(0, .ref 10), (1, .int (nI n)), (2, .int (nI c))], [.int 7, .int (nI n), .ref 10])) rfl ?_
  refine Sp.icmp rfl (fun u2 => absurd u2 (fun z => absurd ((nI_lt' (a := 7) (by omega) (by omega)).mp z) (by omega))) (fun u2 => ?_)
  refine Sp.go 1 (g := (12, [(0, .ref 10), (1, .int (nI n)), (2, .int (nI c))], [.int (nI c), .ref 10])) rfl ?_
  refine Sp.if rfl (fun u3 => absurd u3 (nI_pos (by omega))) (fun u3 => ?_)
  refine Sp.go 2 (g := (17, [(0, .ref 10), (1, .int (nI n)), (2, .int (nI c))], [.int 4, .int (nI c), .ref 10])) rfl ?_
  refine Sp.icmp rfl (fun u4 => ?_) (fun u4 => absurd ((nI_le' (b := 4) (by omega) (by omega)).mpr (by omega)) u4)
  refine Sp.go 1 (g := (25, [(0, .ref 10), (1, .int (nI n)), (2, .int (nI c))], [.ref 10, .ref 10])) rfl ?_
  refine Sp.get (v := .ref 11) rfl rfl rfl ?_
  refine Sp.go 1 (g := (29, [(0, .ref 10), (1, .int (nI n)), (2, .int (nI c))], [.int (nI n), .ref 11, .ref 10])) rfl ?_
  refine Sp.iald (f := w.a 11) (j := n) rfl rfl (m_ix_of (by simp only [nI, Int32.ofNat_add, Int32.ofNat_mul] <;> rfl) (by omega) (by omega)) ?_
  rw [hj.1.pl (by omega)]
  refine Sp.if rfl (fun u5 => absurd u5 (fun z => absurd ((a_places_neg _ (fun c hc => ho.2.2.2.1 n c hc)).mp z) (by rw [hb]; decide))) (fun u5 => ?_)
  refine Sp.go 1 (g := (34, [(0, .ref 10), (1, .int (nI n)), (2, .int (nI c))], [.ref 10, .ref 10])) rfl ?_
  refine Sp.get (v := .int (nI (A.nc))) rfl rfl (by rw [← hj.1.cs]; rfl) ?_
  refine Sp.if rfl (fun u6 => ?_) (fun u6 => absurd ((nI_le0 (by omega)).mpr h0) u6)
  refine Sp.go 1 (g := (45, [(0, .ref 10), (1, .int (nI n)), (2, .int (nI c))], [.int 0, .ref 10])) rfl ?_
  refine Sp.pf5 rfl ?_
  refine Sp.go 1 (g := (49, [(0, .ref 10), (1, .int (nI n)), (2, .int (nI c))], [.ref 10])) rfl ?_
  refine Sp.get (v := .int 0) rfl rfl rfl ?_
  refine Sp.if rfl (fun u7 => ?_) (fun u7 => absurd (show (0 : Int32) ≤ 0 by decide) u7)
  refine Sp.go 1 (g := (58, [(0, .ref 10), (1, .int (nI n)), (2, .int (nI c))], [.ref 10])) rfl ?_
  refine Sp.get (v := .ref 11) rfl rfl rfl ?_
  refine Sp.go 2 (g := (63, [(0, .ref 10), (1, .int (nI n)), (2, .int (nI c))], [.int (nI c), .int (nI n), .ref 11])) rfl ?_
  refine Sp.pa11 (j := n) rfl (m_ix_of (by simp only [nI, Int32.ofNat_add, Int32.ofNat_mul] <;> rfl) (by omega) (by omega)) ?_
  refine Sp.wd (w' := ((w).sf 5 (0)).sa 11 (upd (w.a 11) n (nI c))) rfl ?_
  refine Sp.go 4 (g := (69, [(4, .int 0), (3, .int 0), (0, .ref 10), (1, .int (nI n)), (2, .int (nI c))], [])) rfl ?_
  exact d_cnt (ho.node hc) (hj.node n c 0).1 8 0 0 rfl rfl hq
theorem d_contact_t {X : mX} {C S : Nat} {Q : Outcome → mM → Prop} {w : mWd} {x y z u : Int32} : ∀ (v : Int32), ¬ v ≤ 0 → Q (.returned (some (.int 0))) (mw (w.sf 5 v)) → Sp X 66 2 43 C S (52, [(0, .ref 10), (1, .int (x)), (2, .int (y)), (3, .int (z)), (4, .int (u))], []) (mw (w.sf 5 v)) Q := by
  intro v h0 hq
  have h1 : ¬ v = 0 := fun z => h0 (by rw [z]; decide)
  refine Sp.go 4 (g := (59, [(5, .int (z)), (0, .ref 10), (1, .int (x)), (2, .int (y)), (3, .int (z)), (4, .int (u))], [.int (u), .int (z)])) rfl ?_
  refine Sp.icmp rfl (fun (h11 : (u : Int32) ≤ (z : Int32)) => ?_) (fun (h11 : ¬ ((u : Int32) ≤ (z : Int32))) => ?_)
  · skip
    refine Sp.go 1 (g := (96, [(5, .int (z)), (0, .ref 10), (1, .int (x)), (2, .int (y)), (3, .int (z)), (4, .int (u))], [.ref 10])) rfl ?_
    refine Sp.get (v := .int (v)) rfl rfl rfl ?_
    refine Sp.if rfl (fun u12 => absurd u12 h0) (fun u12 => ?_)
    refine Sp.go 1 (g := (103, [(5, .int (z)), (0, .ref 10), (1, .int (x)), (2, .int (y)), (3, .int (z)), (4, .int (u))], [.int 0])) rfl ?_
    refine Sp.iret rfl (Or.inl rfl) ?_
    exact hq
  · skip
    refine Sp.go 1 (g := (63, [(5, .int (z)), (0, .ref 10), (1, .int (x)), (2, .int (y)), (3, .int (z)), (4, .int (u))], [.ref 10])) rfl ?_
    refine Sp.get (v := .int (v)) rfl rfl rfl ?_
    refine Sp.if rfl (fun u13 => ?_) (fun u13 => absurd h1 u13)
    refine Sp.go 1 (g := (96, [(5, .int (z)), (0, .ref 10), (1, .int (x)), (2, .int (y)), (3, .int (z)), (4, .int (u))], [.ref 10])) rfl ?_
    refine Sp.get (v := .int (v)) rfl rfl rfl ?_
    refine Sp.if rfl (fun u14 => absurd u14 h0) (fun u14 => ?_)
    refine Sp.go 1 (g := (103, [(5, .int (z)), (0, .ref 10), (1, .int (x)), (2, .int (y)), (3, .int (z)), (4, .int (u))], [.int 0])) rfl ?_
    refine Sp.iret rfl (Or.inl rfl) ?_
    exact hq
theorem d_contact_b1 {X : mX} {C S : Nat} {Q : Outcome → mM → Prop} {w : mWd} {A : aS} (ho : a_ok A) (hj : JR0 w A) {x y z u : Int32} (hb : a_pair A x y = false ∨ z < nI A.T ∨ u ≤ z ∨ (64 : Int32) < u) (hq : Q (.returned (some (.int 0))) (mw (w.sf 5 1))) : Sp X 66 2 43 C S (0, [(0, .ref 10), (1, .int (x)), (2, .int (y)), (3, .int (z)), (4, .int (u))], []) (mw w) Q := by
  refine Sp.go 4 (g := (4, [(0, .ref 10), (1, .int (x)), (2, .int (y)), (3, .int (z)), (4, .int (u))], [.int (y), .int (x), .ref 10, .ref 10])) rfl ?_
  refine Sp.vr (some (.int (m_b2 (!a_pair A (x) (y))))) (mw (w)) (k' := 55) (F' := 1) (N' := 21) (C' := 0) (S' := 0) (vs := [.int (x), .int (y)]) (st := [.ref 10]) rfl rfl rfl rfl (Nat.le_of_ble_eq_true rfl) (Nat.le_of_ble_eq_true rfl) (by decide) (by decide) (Nat.zero_le _) (Nat.zero_le _) (fun Q' h => d_noPair ho hj h) ?_
  refine Sp.ifbn rfl (fun h1 => ?_) (fun h1 => ?_)
  · skip
    refine Sp.go 2 (g := (49, [(0, .ref 10), (1, .int (x)), (2, .int (y)), (3, .int (z)), (4, .int (u))], [.int 1, .ref 10])) rfl ?_
    refine Sp.pf5 rfl ?_
    exact d_contact_t 1 (by decide) hq
  · skip
    refine Sp.go 2 (g := (12, [(0, .ref 10), (1, .int (x)), (2, .int (y)), (3, .int (z)), (4, .int (u))], [.ref 10, .int (z), .ref 10])) rfl ?_
    refine Sp.get (v := .int (nI (A.T))) rfl rfl (by rw [← hj.now]; rfl) ?_
    refine Sp.icmp rfl (fun (h2 : (z : Int32) < (nI (A.T) : Int32)) => ?_) (fun (h2 : ¬ ((z : Int32) < (nI (A.T) : Int32))) => ?_)
    · skip
      refine Sp.go 2 (g := (49, [(0, .ref 10), (1, .int (x)), (2, .int (y)), (3, .int (z)), (4, .int (u))], [.int 1, .ref 10])) rfl ?_
      refine Sp.pf5 rfl ?_
      exact d_contact_t 1 (by decide) hq
    · skip
      refine Sp.go 2 (g := (21, [(0, .ref 10), (1, .int (x)), (2, .int (y)), (3, .int (z)), (4, .int (u))], [.int (u), .int (z), .ref 10])) rfl ?_
      refine Sp.icmp rfl (fun (h3 : (u : Int32) ≤ (z : Int32)) => ?_) (fun (h3 : ¬ ((u : Int32) ≤ (z : Int32))) => ?_)
      · skip
        refine Sp.go 2 (g := (49, [(0, .ref 10), (1, .int (x)), (2, .int (y)), (3, .int (z)), (4, .int (u))], [.int 1, .ref 10])) rfl ?_
        refine Sp.pf5 rfl ?_
        exact d_contact_t 1 (by decide) hq
      · skip
        refine Sp.go 2 (g := (28, [(0, .ref 10), (1, .int (x)), (2, .int (y)), (3, .int (z)), (4, .int (u))], [.int 64, .int (u), .ref 10])) rfl ?_
        refine Sp.icmp rfl (fun (h4 : (u : Int32) ≤ (64 : Int32)) => ?_) (fun (h4 : ¬ ((u : Int32) ≤ (64 : Int32))) => ?_)
        · skip
          rcases hb with q | q | q | q
          · rw [q] at h1; exact absurd h1 (by decide)
          · exact absurd q h2
          · exact absurd q h3
          · exact absurd q (i_nlt2 h4)
        · skip
          refine Sp.go 2 (g := (49, [(0, .ref 10), (1, .int (x)), (2, .int (y)), (3, .int (z)), (4, .int (u))], [.int 1, .ref 10])) rfl ?_
          refine Sp.pf5 rfl ?_
          exact d_contact_t 1 (by decide) hq
theorem d_contact_b2 {X : mX} {C S : Nat} {Q : Outcome → mM → Prop} {w : mWd} {A : aS} (ho : a_ok A) (hj : JR0 w A) {x y z u : Int32} (hp : a_pair A x y = true) (g1 : ¬ z < nI A.T) (g2 : ¬ u ≤ z) (g3 : u ≤ (64 : Int32)) (hk : A.nc = 24) (hq : Q (.returned (some (.int 0))) (mw (w.sf 5 2))) : Sp X 66 2 43 C S (0, [(0, .ref 10), (1, .int (x)), (2, .int (y)), (3, .int (z)), (4, .int (u))], []) (mw w) Q := by
  refine Sp.go 4 (g := (4, [(0, .ref 10), (1, .int (x)), (2, .int (y)), (3, .int (z)), (4, .int (u))], [.int (y), .int (x), .ref 10, .ref 10])) rfl ?_
  refine Sp.vr (some (.int (m_b2 (!a_pair A (x) (y))))) (mw (w)) (k' := 55) (F' := 1) (N' := 21) (C' := 0) (S' := 0) (vs := [.int (x), .int (y)]) (st := [.ref 10]) rfl rfl rfl rfl (Nat.le_of_ble_eq_true rfl) (Nat.le_of_ble_eq_true rfl) (by decide) (by decide) (Nat.zero_le _) (Nat.zero_le _) (fun Q' h => d_noPair ho hj h) ?_
  refine Sp.ifbn rfl (fun u1 => absurd u1 (by rw [hp]; decide)) (fun u1 => ?_)
  refine Sp.go 2 (g := (12, [(0, .ref 10), (1, .int (x)), (2, .int (y)), (3, .int (z)), (4, .int (u))], [.ref 10, .int (z), .ref 10])) rfl ?_
  refine Sp.get (v := .int (nI (A.T))) rfl rfl (by rw [← hj.now]; rfl) ?_
  refine Sp.icmp rfl (fun u2 => absurd u2 g1) (fun u2 => ?_)
  refine Sp.go 2 (g := (21, [(0, .ref 10), (1, .int (x)), (2, .int (y)), (3, .int (z)), (4, .int (u))], [.int (u), .int (z), .ref 10])) rfl ?_
  refine Sp.icmp rfl (fun u3 => absurd u3 g2) (fun u3 => ?_)
  refine Sp.go 2 (g := (28, [(0, .ref 10), (1, .int (x)), (2, .int (y)), (3, .int (z)), (4, .int (u))], [.int 64, .int (u), .ref 10])) rfl ?_
  refine Sp.icmp rfl (fun u4 => ?_) (fun u4 => absurd g3 u4)
  refine Sp.go 1 (g := (36, [(0, .ref 10), (1, .int (x)), (2, .int (y)), (3, .int (z)), (4, .int (u))], [.ref 10, .ref 10])) rfl ?_
  refine Sp.get (v := .int (nI (A.nc))) rfl rfl (by rw [← hj.cs]; rfl) ?_
  refine Sp.go 1 (g := (41, [(0, .ref 10), (1, .int (x)), (2, .int (y)), (3, .int (z)), (4, .int (u))], [.int 24, .int (nI (A.nc)), .ref 10])) rfl ?_
  refine Sp.icmp rfl (fun u5 => absurd u5 (fun z => z (by rw [hk]; rfl))) (fun u5 => ?_)
  refine Sp.go 2 (g := (49, [(0, .ref 10), (1, .int (x)), (2, .int (y)), (3, .int (z)), (4, .int (u))], [.int 2, .ref 10])) rfl ?_
  refine Sp.pf5 rfl ?_
  exact d_contact_t 2 (by decide) hq
theorem d_opens {X : mX} {C S : Nat} {Q : Outcome → mM → Prop} {w : mWd} {A : aS} (ho : a_ok A) (hj : JR0 w A) {a b e : Nat} {v3 : Int32} (ha : a < 8) (hb : b < 8) (he : e ≤ 64) : ∀ (d t : Nat), t + d = max t e → t ≤ 64 → (m_any (fun t => A.op a b t) t d = true → Q (.returned (some (.int 0))) (mw (w.sf 5 2))) → (m_any (fun t => A.op a b t) t d = false → ∀ x : Int32, Sp X 66 2 43 C S (95, [(5, .int x), (0, .ref 10), (1, .int (nI a)), (2, .int (nI b)), (3, .int (v3)), (4, .int (nI e))], []) (mw (w.sf 5 0)) Q) → Sp X 66 2 43 C S (55, [(5, .int (nI t)), (0, .ref 10), (1, .int (nI a)), (2, .int (nI b)), (3, .int (v3)), (4, .int (nI e))], []) (mw (w.sf 5 0)) Q := by
  intro d
  induction d with
  | zero =>
    intro t hd ht k1 k2
    refine Sp.go 2 (g := (59, [(5, .int (nI t)), (0, .ref 10), (1, .int (nI a)), (2, .int (nI b)), (3, .int (v3)), (4, .int (nI e))], [.int (nI e), .int (nI t)])) rfl ?_
    refine Sp.icmp rfl (fun u1 => ?_) (fun u1 => absurd ((nI_le' (by omega) (by omega)).mpr (by omega)) u1)
    exact k2 rfl _
  | succ d ih =>
    intro t hd ht k1 k2
    refine Sp.go 2 (g := (59, [(5, .int (nI t)), (0, .ref 10), (1, .int (nI a)), (2, .int (nI b)), (3, .int (v3)), (4, .int (nI e))], [.int (nI e), .int (nI t)])) rfl ?_
    refine Sp.icmp rfl (fun u1 => absurd u1 (fun z => absurd ((nI_le' (by omega) (by omega)).mp z) (by omega))) (fun u1 => ?_)
    refine Sp.go 1 (g := (63, [(5, .int (nI t)), (0, .ref 10), (1, .int (nI a)), (2, .int (nI b)), (3, .int (v3)), (4, .int (nI e))], [.ref 10])) rfl ?_
    refine Sp.get (v := .int 0) rfl rfl rfl ?_
    refine Sp.if rfl (fun u2 => absurd u2 (fun z => z rfl)) (fun u2 => ?_)
    refine Sp.go 5 (g := (75, [(5, .int (nI t)), (0, .ref 10), (1, .int (nI a)), (2, .int (nI b)), (3, .int (v3)), (4, .int (nI e))], [.int (nI t), .int (nI b), .int (nI a), .ref 10, .ref 10])) rfl ?_
    refine Sp.vr (some (.int (m_b2 (A.op a b t)))) (mw (w.sf 5 (0))) (k' := 57) (F' := 0) (N' := 0) (C' := 0) (S' := 0) (vs := [.int (nI a), .int (nI b), .int (nI t)]) (st := [.ref 10]) rfl rfl rfl rfl (Nat.le_of_ble_eq_true rfl) (Nat.le_of_ble_eq_true rfl) (by decide) (by decide) (Nat.zero_le _) (Nat.zero_le _) (fun Q' h => d_isOpen ho hj.t (by omega) (by omega) (by omega) h) ?_
    refine Sp.ifb rfl (fun h3 => ?_) (fun h3 => ?_)
    · skip
      refine Sp.go 1 (g := (86, [(5, .int (nI t)), (0, .ref 10), (1, .int (nI a)), (2, .int (nI b)), (3, .int (v3)), (4, .int (nI e))], [.int 0, .ref 10])) rfl ?_
      refine Sp.pf5 rfl ?_
      refine Sp.wd (w' := w.sf 5 (0)) (mWd.sf_sf ..) ?_
      refine Sp.go 2 (g := (55, [(5, .int (nI t + 1)), (0, .ref 10), (1, .int (nI a)), (2, .int (nI b)), (3, .int (v3)), (4, .int (nI e))], [])) rfl ?_
      rw [show nI t + 1 = nI (t + 1) from (nI_succ t).symm]
      refine ih (t + 1) (by omega) (by omega) (fun z => k1 (by simp only [m_any, z, Bool.or_true])) (fun z => k2 (by simp only [m_any, h3, z, Bool.or_false]))
    · skip
      refine Sp.go 2 (g := (86, [(5, .int (nI t)), (0, .ref 10), (1, .int (nI a)), (2, .int (nI b)), (3, .int (v3)), (4, .int (nI e))], [.int 2, .ref 10])) rfl ?_
      refine Sp.pf5 rfl ?_
      refine Sp.wd (w' := w.sf 5 (2)) (mWd.sf_sf ..) ?_
      refine Sp.go 2 (g := (55, [(5, .int (nI t + 1)), (0, .ref 10), (1, .int (nI a)), (2, .int (nI b)), (3, .int (v3)), (4, .int (nI e))], [])) rfl ?_
      have k3 := k1 (by simp only [m_any, h3, Bool.true_or])
      refine Sp.go 2 (g := (59, [(5, .int (nI t + 1)), (0, .ref 10), (1, .int (nI a)), (2, .int (nI b)), (3, .int (v3)), (4, .int (nI e))], [.int (nI e), .int (nI t + 1)])) rfl ?_
      refine Sp.icmp rfl (fun (h11 : (nI e : Int32) ≤ (nI t + 1 : Int32)) => ?_) (fun (h11 : ¬ ((nI e : Int32) ≤ (nI t + 1 : Int32))) => ?_)
      · skip
        refine Sp.go 1 (g := (96, [(5, .int (nI t + 1)), (0, .ref 10), (1, .int (nI a)), (2, .int (nI b)), (3, .int (v3)), (4, .int (nI e))], [.ref 10])) rfl ?_
        refine Sp.get (v := .int 2) rfl rfl rfl ?_
        refine Sp.if rfl (fun u12 => absurd u12 (show ¬ (2 : Int32) ≤ 0 by decide)) (fun u12 => ?_)
        refine Sp.go 1 (g := (103, [(5, .int (nI t + 1)), (0, .ref 10), (1, .int (nI a)), (2, .int (nI b)), (3, .int (v3)), (4, .int (nI e))], [.int 0])) rfl ?_
        refine Sp.iret rfl (Or.inl rfl) ?_
        exact k3
      · skip
        refine Sp.go 1 (g := (63, [(5, .int (nI t + 1)), (0, .ref 10), (1, .int (nI a)), (2, .int (nI b)), (3, .int (v3)), (4, .int (nI e))], [.ref 10])) rfl ?_
        refine Sp.get (v := .int 2) rfl rfl rfl ?_
        refine Sp.if rfl (fun u13 => ?_) (fun u13 => absurd (show ¬ (2 : Int32) = 0 by decide) u13)
        refine Sp.go 1 (g := (96, [(5, .int (nI t + 1)), (0, .ref 10), (1, .int (nI a)), (2, .int (nI b)), (3, .int (v3)), (4, .int (nI e))], [.ref 10])) rfl ?_
        refine Sp.get (v := .int 2) rfl rfl rfl ?_
        refine Sp.if rfl (fun u14 => absurd u14 (show ¬ (2 : Int32) ≤ 0 by decide)) (fun u14 => ?_)
        refine Sp.go 1 (g := (103, [(5, .int (nI t + 1)), (0, .ref 10), (1, .int (nI a)), (2, .int (nI b)), (3, .int (v3)), (4, .int (nI e))], [.int 0])) rfl ?_
        refine Sp.iret rfl (Or.inl rfl) ?_
        exact k3
def d_sets (a b : Nat) (v : Int32) : Nat → Nat → (Nat → Int32) → Nat → Int32
  | _, 0, ro => ro
  | t, d + 1, ro => d_sets a b v (t + 1) d (d_set ro a b t v)
theorem d_set_at {ro : Nat → Int32} {a b t x y u : Nat} {v : Int32} (ha : a < 8) (hb : b < 8) (ht : t < 64) (hx : x < 8) (hy : y < 8) (hu : u < 64) : d_set ro a b t v (512 * x + 64 * y + u) = if ((x = a ∧ y = b) ∨ (x = b ∧ y = a)) ∧ u = t then v else ro (512 * x + 64 * y + u) := by
  simp only [d_set, upd]
  split
  · rw [if_pos (by omega)]
  · split
    · rw [if_pos (by omega)]
    · rw [if_neg (by omega)]
theorem d_sets_at {a b : Nat} {v : Int32} (ha : a < 8) (hb : b < 8) {x y u : Nat} (hx : x < 8) (hy : y < 8) (hu : u < 64) : ∀ (d t : Nat) (ro : Nat → Int32), t + d ≤ 64 → d_sets a b v t d ro (512 * x + 64 * y + u) = if ((x = a ∧ y = b) ∨ (x = b ∧ y = a)) ∧ t ≤ u ∧ u < t + d then v else ro (512 * x + 64 * y + u) := by
  intro d
  induction d with
  | zero => intro t ro h; simp only [d_sets]; rw [if_neg (by omega)]
  | succ d ih =>
    intro t ro h
    simp only [d_sets]
    rw [ih (t + 1) _ (by omega), d_set_at ha hb (by omega) hx hy hu]
    by_cases hc : (x = a ∧ y = b) ∨ (x = b ∧ y = a)
    · by_cases h1 : t + 1 ≤ u ∧ u < t + 1 + d
      · rw [if_pos ⟨hc, h1⟩, if_pos ⟨hc, by omega, by omega⟩]
      · rw [if_neg (fun z => h1 z.2)]
        by_cases h2 : u = t
        · rw [if_pos ⟨hc, h2⟩, if_pos ⟨hc, by omega, by omega⟩]
        · rw [if_neg (fun z => h2 z.2), if_neg (fun z => by have := z.2; omega)]
    · rw [if_neg (fun z => hc z.1), if_neg (fun z => hc z.1), if_neg (fun z => hc z.1)]
theorem JR.opn {w : mWd} {A : aS} (hj : JR w A) {a b s d : Nat} (ha : a < 8) (hb : b < 8) (hd : s + d ≤ 64) (v : Bool) : JR (w.sa 12 (d_sets a b (m_b2 v) s d (w.a 12))) (A.opn a b s (s + d) v) := by
  obtain ⟨⟨h1, h2, h3, h4, h5, h6, _⟩, h7⟩ := hj
  refine ⟨⟨h1, h2, h3, h4, fun x y t hx hy ht => ?_, h6, trivial⟩, h7⟩
  show d_sets a b (m_b2 v) s d (w.a 12) (512 * x + 64 * y + t) = m_b2 (if ((x = a ∧ y = b) ∨ (x = b ∧ y = a)) ∧ s ≤ t ∧ t < s + d then v else A.op x y t)
  rw [d_sets_at ha hb hx hy ht d s _ hd]
  split
  · rfl
  · exact h5 x y t hx hy ht
theorem d_setsC {X : mX} {C S : Nat} {Q : Outcome → mM → Prop} {a b e : Nat} {v3 : Int32} (ha : a < 8) (hb : b < 8) (he : e ≤ 64) : ∀ (d t : Nat) (w : mWd), t + d = e → Sp X 66 2 43 C S (129, [(5, .int (nI e)), (0, .ref 10), (1, .int (nI a)), (2, .int (nI b)), (3, .int (v3)), (4, .int (nI e))], []) (mw (w.sa 12 (d_sets a b 1 t d (w.a 12)))) Q → Sp X 66 2 43 C S (107, [(5, .int (nI t)), (0, .ref 10), (1, .int (nI a)), (2, .int (nI b)), (3, .int (v3)), (4, .int (nI e))], []) (mw w) Q := by
  intro d
  induction d with
  | zero =>
    intro t w hd kk
    have et : t = e := by omega
    subst et
    refine Sp.go 2 (g := (111, [(5, .int (nI t)), (0, .ref 10), (1, .int (nI a)), (2, .int (nI b)), (3, .int (v3)), (4, .int (nI t))], [.int (nI t), .int (nI t)])) rfl ?_
    refine Sp.icmp rfl (fun u1 => ?_) (fun u1 => absurd ((nI_le' (by omega) (by omega)).mpr (by omega)) u1)
    rw [show d_sets a b 1 t 0 (w.a 12) = w.a 12 from rfl, mWd.sa_self] at kk
    exact kk
  | succ d ih =>
    intro t w hd kk
    refine Sp.go 2 (g := (111, [(5, .int (nI t)), (0, .ref 10), (1, .int (nI a)), (2, .int (nI b)), (3, .int (v3)), (4, .int (nI e))], [.int (nI e), .int (nI t)])) rfl ?_
    refine Sp.icmp rfl (fun u1 => absurd u1 (fun z => absurd ((nI_le' (by omega) (by omega)).mp z) (by omega))) (fun u1 => ?_)
    refine Sp.go 5 (g := (120, [(5, .int (nI t)), (0, .ref 10), (1, .int (nI a)), (2, .int (nI b)), (3, .int (v3)), (4, .int (nI e))], [.int 1, .int (nI t), .int (nI b), .int (nI a), .ref 10])) rfl ?_
    refine Sp.vr none (mw (w.sa 12 (d_set (w.a 12) a b t 1))) (k' := 58) (F' := 0) (N' := 0) (C' := 0) (S' := 0) (vs := [.int (nI a), .int (nI b), .int (nI t), .int 1]) (st := []) rfl rfl rfl rfl (Nat.le_of_ble_eq_true rfl) (Nat.le_of_ble_eq_true rfl) (by decide) (by decide) (Nat.zero_le _) (Nat.zero_le _) (fun Q' h => d_setT (by omega) (by omega) (by omega) (by decide) h) ?_
    refine Sp.go 2 (g := (107, [(5, .int (nI t + 1)), (0, .ref 10), (1, .int (nI a)), (2, .int (nI b)), (3, .int (v3)), (4, .int (nI e))], [])) rfl ?_
    rw [show nI t + 1 = nI (t + 1) from (nI_succ t).symm]
    refine ih (t + 1) _ (by omega) ?_
    rw [mWd.sa_sa]
    exact kk
theorem d_contact_b3 {X : mX} {C S : Nat} {Q : Outcome → mM → Prop} {w : mWd} {A : aS} (ho : a_ok A) (hj : JR0 w A) {a b s e : Nat} (ha : a < 8) (hb : b < 8) (he : e ≤ 64) (hse : s < e) (hp : a_pair A (nI a) (nI b) = true) (g1 : ¬ nI s < nI A.T) (g2 : ¬ nI e ≤ nI s) (g3 : nI e ≤ (64 : Int32)) (hk : A.nc < 24) (hx : m_any (fun t => A.op a b t) s (e - s) = true) (hq : Q (.returned (some (.int 0))) (mw (w.sf 5 2))) : Sp X 66 2 43 C S (0, [(0, .ref 10), (1, .int (nI a)), (2, .int (nI b)), (3, .int (nI s)), (4, .int (nI e))], []) (mw w) Q := by
  refine Sp.go 4 (g := (4, [(0, .ref 10), (1, .int (nI a)), (2, .int (nI b)), (3, .int (nI s)), (4, .int (nI e))], [.int (nI b), .int (nI a), .ref 10, .ref 10])) rfl ?_
  refine Sp.vr (some (.int (m_b2 (!a_pair A (nI a) (nI b))))) (mw (w)) (k' := 55) (F' := 1) (N' := 21) (C' := 0) (S' := 0) (vs := [.int (nI a), .int (nI b)]) (st := [.ref 10]) rfl rfl rfl rfl (Nat.le_of_ble_eq_true rfl) (Nat.le_of_ble_eq_true rfl) (by decide) (by decide) (Nat.zero_le _) (Nat.zero_le _) (fun Q' h => d_noPair ho hj h) ?_
  refine Sp.ifbn rfl (fun u1 => absurd u1 (by rw [hp]; decide)) (fun u1 => ?_)
  refine Sp.go 2 (g := (12, [(0, .ref 10), (1, .int (nI a)), (2, .int (nI b)), (3, .int (nI s)), (4, .int (nI e))], [.ref 10, .int (nI s), .ref 10])) rfl ?_
  refine Sp.get (v := .int (nI (A.T))) rfl rfl (by rw [← hj.now]; rfl) ?_
  refine Sp.icmp rfl (fun u2 => absurd u2 g1) (fun u2 => ?_)
  refine Sp.go 2 (g := (21, [(0, .ref 10), (1, .int (nI a)), (2, .int (nI b)), (3, .int (nI s)), (4, .int (nI e))], [.int (nI e), .int (nI s), .ref 10])) rfl ?_
  refine Sp.icmp rfl (fun u3 => absurd u3 g2) (fun u3 => ?_)
  refine Sp.go 2 (g := (28, [(0, .ref 10), (1, .int (nI a)), (2, .int (nI b)), (3, .int (nI s)), (4, .int (nI e))], [.int 64, .int (nI e), .ref 10])) rfl ?_
  refine Sp.icmp rfl (fun u4 => ?_) (fun u4 => absurd g3 u4)
  refine Sp.go 1 (g := (36, [(0, .ref 10), (1, .int (nI a)), (2, .int (nI b)), (3, .int (nI s)), (4, .int (nI e))], [.ref 10, .ref 10])) rfl ?_
  refine Sp.get (v := .int (nI (A.nc))) rfl rfl (by rw [← hj.cs]; rfl) ?_
  refine Sp.go 1 (g := (41, [(0, .ref 10), (1, .int (nI a)), (2, .int (nI b)), (3, .int (nI s)), (4, .int (nI e))], [.int 24, .int (nI (A.nc)), .ref 10])) rfl ?_
  refine Sp.icmp rfl (fun u5 => ?_) (fun u5 => absurd (fun z => absurd ((nI_inj (b := 24) (by omega) (by omega)).mp z) (by omega)) u5)
  refine Sp.go 1 (g := (49, [(0, .ref 10), (1, .int (nI a)), (2, .int (nI b)), (3, .int (nI s)), (4, .int (nI e))], [.int 0, .ref 10])) rfl ?_
  refine Sp.pf5 rfl ?_
  refine Sp.go 2 (g := (55, [(5, .int (nI s)), (0, .ref 10), (1, .int (nI a)), (2, .int (nI b)), (3, .int (nI s)), (4, .int (nI e))], [])) rfl ?_
  exact d_opens ho hj ha hb he (e - s) s (by omega) (by omega) (fun _ => hq) (fun z => absurd z (by rw [hx]; decide))
theorem d_contact_ok {X : mX} {C S : Nat} {Q : Outcome → mM → Prop} {w : mWd} {A : aS} (ho : a_ok A) (hj : JR0 w A) {a b s e : Nat} (ha : a < 8) (hb : b < 8) (he : e ≤ 64) (hse : s < e) (hp : a_pair A (nI a) (nI b) = true) (g1 : ¬ nI s < nI A.T) (g2 : ¬ nI e ≤ nI s) (g3 : nI e ≤ (64 : Int32)) (hk : A.nc < 24) (hx : m_any (fun t => A.op a b t) s (e - s) = false) (hq : Q (.returned (some (.int (nI A.nc + 1)))) (mw (((w.sf 5 0).sa 12 (d_sets a b 1 s (e - s) (w.a 12))).sf 7 (nI A.nc + 1)))) : Sp X 66 2 43 C S (0, [(0, .ref 10), (1, .int (nI a)), (2, .int (nI b)), (3, .int (nI s)), (4, .int (nI e))], []) (mw w) Q := by
  refine Sp.go 4 (g := (4, [(0, .ref 10), (1, .int (nI a)), (2, .int (nI b)), (3, .int (nI s)), (4, .int (nI e))], [.int (nI b), .int (nI a), .ref 10, .ref 10])) rfl ?_
  refine Sp.vr (some (.int (m_b2 (!a_pair A (nI a) (nI b))))) (mw (w)) (k' := 55) (F' := 1) (N' := 21) (C' := 0) (S' := 0) (vs := [.int (nI a), .int (nI b)]) (st := [.ref 10]) rfl rfl rfl rfl (Nat.le_of_ble_eq_true rfl) (Nat.le_of_ble_eq_true rfl) (by decide) (by decide) (Nat.zero_le _) (Nat.zero_le _) (fun Q' h => d_noPair ho hj h) ?_
  refine Sp.ifbn rfl (fun u1 => absurd u1 (by rw [hp]; decide)) (fun u1 => ?_)
  refine Sp.go 2 (g := (12, [(0, .ref 10), (1, .int (nI a)), (2, .int (nI b)), (3, .int (nI s)), (4, .int (nI e))], [.ref 10, .int (nI s), .ref 10])) rfl ?_
  refine Sp.get (v := .int (nI (A.T))) rfl rfl (by rw [← hj.now]; rfl) ?_
  refine Sp.icmp rfl (fun u2 => absurd u2 g1) (fun u2 => ?_)
  refine Sp.go 2 (g := (21, [(0, .ref 10), (1, .int (nI a)), (2, .int (nI b)), (3, .int (nI s)), (4, .int (nI e))], [.int (nI e), .int (nI s), .ref 10])) rfl ?_
  refine Sp.icmp rfl (fun u3 => absurd u3 g2) (fun u3 => ?_)
  refine Sp.go 2 (g := (28, [(0, .ref 10), (1, .int (nI a)), (2, .int (nI b)), (3, .int (nI s)), (4, .int (nI e))], [.int 64, .int (nI e), .ref 10])) rfl ?_
  refine Sp.icmp rfl (fun u4 => ?_) (fun u4 => absurd g3 u4)
  refine Sp.go 1 (g := (36, [(0, .ref 10), (1, .int (nI a)), (2, .int (nI b)), (3, .int (nI s)), (4, .int (nI e))], [.ref 10, .ref 10])) rfl ?_
  refine Sp.get (v := .int (nI (A.nc))) rfl rfl (by rw [← hj.cs]; rfl) ?_
  refine Sp.go 1 (g := (41, [(0, .ref 10), (1, .int (nI a)), (2, .int (nI b)), (3, .int (nI s)), (4, .int (nI e))], [.int 24, .int (nI (A.nc)), .ref 10])) rfl ?_
  refine Sp.icmp rfl (fun u5 => ?_) (fun u5 => absurd (fun z => absurd ((nI_inj (b := 24) (by omega) (by omega)).mp z) (by omega)) u5)
  refine Sp.go 1 (g := (49, [(0, .ref 10), (1, .int (nI a)), (2, .int (nI b)), (3, .int (nI s)), (4, .int (nI e))], [.int 0, .ref 10])) rfl ?_
  refine Sp.pf5 rfl ?_
  refine Sp.go 2 (g := (55, [(5, .int (nI s)), (0, .ref 10), (1, .int (nI a)), (2, .int (nI b)), (3, .int (nI s)), (4, .int (nI e))], [])) rfl ?_
  refine d_opens ho hj ha hb he (e - s) s (by omega) (by omega) (fun z => absurd z (by rw [hx]; decide)) (fun _ x9 => ?_)
  refine Sp.go 1 (g := (96, [(5, .int (x9)), (0, .ref 10), (1, .int (nI a)), (2, .int (nI b)), (3, .int (nI s)), (4, .int (nI e))], [.ref 10])) rfl ?_
  refine Sp.get (v := .int 0) rfl rfl rfl ?_
  refine Sp.if rfl (fun u21 => ?_) (fun u21 => absurd (show (0 : Int32) ≤ 0 by decide) u21)
  refine Sp.go 2 (g := (107, [(5, .int (nI s)), (0, .ref 10), (1, .int (nI a)), (2, .int (nI b)), (3, .int (nI s)), (4, .int (nI e))], [])) rfl ?_
  refine d_setsC ha hb he (e - s) s (w.sf 5 0) (by omega) ?_
  refine Sp.go 2 (g := (131, [(5, .int (nI e)), (0, .ref 10), (1, .int (nI a)), (2, .int (nI b)), (3, .int (nI s)), (4, .int (nI e))], [.ref 10, .ref 10])) rfl ?_
  refine Sp.get (v := .int (nI (A.nc))) rfl rfl (by rw [← hj.cs]; rfl) ?_
  refine Sp.go 2 (g := (136, [(5, .int (nI e)), (0, .ref 10), (1, .int (nI a)), (2, .int (nI b)), (3, .int (nI s)), (4, .int (nI e))], [.int ((nI (A.nc)) + 1), .ref 10])) rfl ?_
  refine Sp.pf7 rfl ?_
  refine Sp.go 1 (g := (140, [(5, .int (nI e)), (0, .ref 10), (1, .int (nI a)), (2, .int (nI b)), (3, .int (nI s)), (4, .int (nI e))], [.ref 10])) rfl ?_
  refine Sp.get (v := .int ((nI (A.nc)) + 1)) rfl rfl rfl ?_
  refine Sp.iret rfl (Or.inl rfl) ?_
  exact hq
theorem JR.ncs {w : mWd} {A : aS} (hj : JR w A) : JR (w.sf 7 (nI A.nc + 1)) A.ncs := by
  obtain ⟨⟨h1, h2, h3, h4, h5, h6, _⟩, h7⟩ := hj
  exact ⟨⟨h1, (nI_succ _).symm, h3, h4, h5, h6, trivial⟩, h7⟩
theorem JR.t {w : mWd} {A : aS} {v : Int32} (h : JR w A) : JR (w.sf 5 v) A := h
theorem JR.e {w : mWd} {A : aS} {E : Nat → Int32} (h : JR w A) : JR (w.sa 21 E) A := h
end
section
/-! The reference: cancel, tick, whatIf, book. Rows laid by wip/gen/model6.py. -/
theorem nI_sub1 {n : Nat} (h : 0 < n) : nI n - 1 = nI (n - 1) := by
  obtain ⟨m, rfl⟩ : ∃ m, n = m + 1 := ⟨n - 1, by omega⟩
  rw [show m + 1 - 1 = m by omega]; exact nI_pred m
theorem d_cutOff {X : mX} {C S : Nat} {Q : Outcome → mM → Prop} {w : mWd} {A : aS} (ho : a_ok A) (hj : JR0 w A) {h : Nat} (hh : h < A.P) (hq : Q (.returned none) (mw (w.sa 18 (upd (w.a 18) h (nI (a_cutla A h)))))) : Sp X 73 0 0 C S (0, [(0, .ref 10), (1, .int (nI h))], []) (mw w) Q := by
  have h32 := ho.2.2.1
  have hb4 := ho.2.2.2.2 h hh
  have hT := ho.1
  refine Sp.go 1 (g := (1, [(0, .ref 10), (1, .int (nI h))], [.ref 10])) rfl ?_
  refine Sp.get (v := .ref 18) rfl rfl rfl ?_
  refine Sp.go 2 (g := (6, [(0, .ref 10), (1, .int (nI h))], [.ref 10, .int (nI h), .ref 18])) rfl ?_
  refine Sp.get (v := .ref 17) rfl rfl rfl ?_
  refine Sp.go 1 (g := (10, [(0, .ref 10), (1, .int (nI h))], [.int (nI h), .ref 17, .int (nI h), .ref 18])) rfl ?_
  refine Sp.iald (f := w.a 17) (j := h) rfl rfl (m_ix_of (by simp only [nI, Int32.ofNat_add, Int32.ofNat_mul] <;> rfl) (by omega) (by omega)) ?_
  rw [hj.fir hh]
  refine Sp.go 1 (g := (12, [(0, .ref 10), (1, .int (nI h))], [.ref 10, .int (nI (A.at h)), .int (nI h), .ref 18])) rfl ?_
  refine Sp.get (v := .int (nI (A.T))) rfl rfl (by rw [← hj.now]; rfl) ?_
  refine Sp.icmp rfl (fun (h1 : (nI (A.at h) : Int32) ≤ (nI (A.T) : Int32)) => ?_) (fun (h1 : ¬ ((nI (A.at h) : Int32) ≤ (nI (A.T) : Int32))) => ?_)
  · skip
    refine Sp.go 1 (g := (30, [(0, .ref 10), (1, .int (nI h))], [.ref 10, .int (nI h), .ref 18])) rfl ?_
    refine Sp.get (v := .int (nI (A.T))) rfl rfl (by rw [← hj.now]; rfl) ?_
    refine Sp.pa18 (j := h) rfl (m_ix_of (by simp only [nI, Int32.ofNat_add, Int32.ofNat_mul] <;> rfl) (by omega) (by omega)) ?_
    refine Sp.vret rfl rfl ?_
    rw [show a_cutla A h = A.T from if_neg (by rw [nI_le' (by omega) (by omega)] at h1; omega)] at hq; exact hq
  · skip
    refine Sp.go 1 (g := (19, [(0, .ref 10), (1, .int (nI h))], [.ref 10, .int (nI h), .ref 18])) rfl ?_
    refine Sp.get (v := .ref 17) rfl rfl rfl ?_
    refine Sp.go 1 (g := (23, [(0, .ref 10), (1, .int (nI h))], [.int (nI h), .ref 17, .int (nI h), .ref 18])) rfl ?_
    refine Sp.iald (f := w.a 17) (j := h) rfl rfl (m_ix_of (by simp only [nI, Int32.ofNat_add, Int32.ofNat_mul] <;> rfl) (by omega) (by omega)) ?_
    rw [hj.fir hh]
    refine Sp.go 3 (g := (33, [(0, .ref 10), (1, .int (nI h))], [.int ((nI (A.at h)) - 1), .int (nI h), .ref 18])) rfl ?_
    refine Sp.pa18 (j := h) rfl (m_ix_of (by simp only [nI, Int32.ofNat_add, Int32.ofNat_mul] <;> rfl) (by omega) (by omega)) ?_
    refine Sp.vret rfl rfl ?_
    have e1 : ¬ A.at h ≤ A.T := by rw [nI_le' (by omega) (by omega)] at h1; exact h1
    rw [show a_cutla A h = A.at h - 1 from if_pos (by omega), ← nI_sub1 (by omega)] at hq; exact hq
def a_less (A : aS) (h : Nat) : Int32 := nI (A.la h) - nI (max (A.at h) A.T)
theorem d_cancel_b1 {X : mX} {C S : Nat} {Q : Outcome → mM → Prop} {w : mWd} {A : aS} (ho : a_ok A) (hj : JR0 w A) {x : Int32} (hx : a_in A x = false) (hq : Q (.returned (some (.int 0))) (mw (w.sf 5 1))) : Sp X 74 2 42 C S (0, [(0, .ref 10), (1, .int (x))], []) (mw w) Q := by
  refine Sp.go 3 (g := (3, [(0, .ref 10), (1, .int (x))], [.int (x), .ref 10, .ref 10])) rfl ?_
  refine Sp.vr (some (.int (m_b2 (!a_in A (x))))) (mw (w)) (k' := 71) (F' := 0) (N' := 0) (C' := 0) (S' := 0) (vs := [.int (x)]) (st := [.ref 10]) rfl rfl rfl rfl (Nat.le_of_ble_eq_true rfl) (Nat.le_of_ble_eq_true rfl) (by decide) (by decide) (Nat.zero_le _) (Nat.zero_le _) (fun Q' h => d_noParcel ho hj h) ?_
  refine Sp.ifb rfl (fun u1 => absurd u1 (by rw [hx]; decide)) (fun u1 => ?_)
  refine Sp.go 2 (g := (26, [(0, .ref 10), (1, .int (x))], [.int 1, .ref 10])) rfl ?_
  refine Sp.pf5 rfl ?_
  refine Sp.go 1 (g := (30, [(0, .ref 10), (1, .int (x))], [.ref 10])) rfl ?_
  refine Sp.get (v := .int 1) rfl rfl rfl ?_
  refine Sp.if rfl (fun u2 => absurd u2 (show ¬ (1 : Int32) ≤ 0 by decide)) (fun u2 => ?_)
  refine Sp.go 1 (g := (37, [(0, .ref 10), (1, .int (x))], [.int 0])) rfl ?_
  refine Sp.iret rfl (Or.inl rfl) ?_
  exact hq
theorem d_cancel_b2 {X : mX} {C S : Nat} {Q : Outcome → mM → Prop} {w : mWd} {A : aS} (ho : a_ok A) (hj : JR0 w A) {h : Nat} (hh : h < A.P) (hf : A.fa h ≤ 5) (hl : A.fa h ≠ 0) (hq : Q (.returned (some (.int 0))) (mw (w.sf 5 2))) : Sp X 74 2 42 C S (0, [(0, .ref 10), (1, .int (nI h))], []) (mw w) Q := by
  have h32 := ho.2.2.1
  have hb4 := ho.2.2.2.2 h hh
  have hT := ho.1
  refine Sp.go 3 (g := (3, [(0, .ref 10), (1, .int (nI h))], [.int (nI h), .ref 10, .ref 10])) rfl ?_
  refine Sp.vr (some (.int (m_b2 (!a_in A (nI h))))) (mw (w)) (k' := 71) (F' := 0) (N' := 0) (C' := 0) (S' := 0) (vs := [.int (nI h)]) (st := [.ref 10]) rfl rfl rfl rfl (Nat.le_of_ble_eq_true rfl) (Nat.le_of_ble_eq_true rfl) (by decide) (by decide) (Nat.zero_le _) (Nat.zero_le _) (fun Q' h => d_noParcel ho hj h) ?_
  refine Sp.ifb rfl (fun u1 => ?_) (fun u1 => absurd u1 (by rw [a_in_nI ho hh]; decide))
  refine Sp.go 2 (g := (15, [(0, .ref 10), (1, .int (nI h))], [.int (nI h), .ref 10, .ref 10])) rfl ?_
  refine Sp.vr (some (.int (m_b2 (decide (A.fa h = 0))))) (mw (w)) (k' := 72) (F' := 1) (N' := 21) (C' := 0) (S' := 0) (vs := [.int (nI h)]) (st := [.ref 10]) rfl rfl rfl rfl (Nat.le_of_ble_eq_true rfl) (Nat.le_of_ble_eq_true rfl) (by decide) (by decide) (Nat.zero_le _) (Nat.zero_le _) (fun Q' h => d_isLive ho hj hh hf h) ?_
  refine Sp.ifbn rfl (fun u2 => absurd u2 (by simp [hl])) (fun u2 => ?_)
  refine Sp.go 2 (g := (26, [(0, .ref 10), (1, .int (nI h))], [.int 2, .ref 10])) rfl ?_
  refine Sp.pf5 rfl ?_
  refine Sp.go 1 (g := (30, [(0, .ref 10), (1, .int (nI h))], [.ref 10])) rfl ?_
  refine Sp.get (v := .int 2) rfl rfl rfl ?_
  refine Sp.if rfl (fun u3 => absurd u3 (show ¬ (2 : Int32) ≤ 0 by decide)) (fun u3 => ?_)
  refine Sp.go 1 (g := (37, [(0, .ref 10), (1, .int (nI h))], [.int 0])) rfl ?_
  refine Sp.iret rfl (Or.inl rfl) ?_
  exact hq
theorem d_cancel_ok {X : mX} {C S : Nat} {Q : Outcome → mM → Prop} {w : mWd} {A : aS} (ho : a_ok A) (hj : JR0 w A) {h : Nat} (hh : h < A.P) (hf : A.fa h ≤ 5) (hl : A.fa h = 0) (hq : Q (.returned (some (.int (a_less A h)))) (mw (((w.sf 5 0).sa 18 (upd (w.a 18) h (nI (a_cutla A h)))).sa 16 (upd (w.a 16) h 4)))) : Sp X 74 2 42 C S (0, [(0, .ref 10), (1, .int (nI h))], []) (mw w) Q := by
  have h32 := ho.2.2.1
  have hb4 := ho.2.2.2.2 h hh
  have hT := ho.1
  refine Sp.go 3 (g := (3, [(0, .ref 10), (1, .int (nI h))], [.int (nI h), .ref 10, .ref 10])) rfl ?_
  refine Sp.vr (some (.int (m_b2 (!a_in A (nI h))))) (mw (w)) (k' := 71) (F' := 0) (N' := 0) (C' := 0) (S' := 0) (vs := [.int (nI h)]) (st := [.ref 10]) rfl rfl rfl rfl (Nat.le_of_ble_eq_true rfl) (Nat.le_of_ble_eq_true rfl) (by decide) (by decide) (Nat.zero_le _) (Nat.zero_le _) (fun Q' h => d_noParcel ho hj h) ?_
  refine Sp.ifb rfl (fun u1 => ?_) (fun u1 => absurd u1 (by rw [a_in_nI ho hh]; decide))
  refine Sp.go 2 (g := (15, [(0, .ref 10), (1, .int (nI h))], [.int (nI h), .ref 10, .ref 10])) rfl ?_
  refine Sp.vr (some (.int (m_b2 (decide (A.fa h = 0))))) (mw (w)) (k' := 72) (F' := 1) (N' := 21) (C' := 0) (S' := 0) (vs := [.int (nI h)]) (st := [.ref 10]) rfl rfl rfl rfl (Nat.le_of_ble_eq_true rfl) (Nat.le_of_ble_eq_true rfl) (by decide) (by decide) (Nat.zero_le _) (Nat.zero_le _) (fun Q' h => d_isLive ho hj hh hf h) ?_
  refine Sp.ifbn rfl (fun u2 => ?_) (fun u2 => absurd u2 (by simp [hl]))
  refine Sp.go 1 (g := (26, [(0, .ref 10), (1, .int (nI h))], [.int 0, .ref 10])) rfl ?_
  refine Sp.pf5 rfl ?_
  refine Sp.go 1 (g := (30, [(0, .ref 10), (1, .int (nI h))], [.ref 10])) rfl ?_
  refine Sp.get (v := .int 0) rfl rfl rfl ?_
  refine Sp.if rfl (fun u3 => ?_) (fun u3 => absurd (show (0 : Int32) ≤ 0 by decide) u3)
  refine Sp.go 1 (g := (39, [(0, .ref 10), (1, .int (nI h))], [.ref 10])) rfl ?_
  refine Sp.get (v := .ref 18) rfl rfl rfl ?_
  refine Sp.go 1 (g := (43, [(0, .ref 10), (1, .int (nI h))], [.int (nI h), .ref 18])) rfl ?_
  refine Sp.iald (f := w.a 18) (j := h) rfl rfl (m_ix_of (by simp only [nI, Int32.ofNat_add, Int32.ofNat_mul] <;> rfl) (by omega) (by omega)) ?_
  rw [hj.la hh]
  refine Sp.go 1 (g := (45, [(0, .ref 10), (1, .int (nI h))], [.ref 10, .int (nI (A.la h))])) rfl ?_
  refine Sp.get (v := .ref 17) rfl rfl rfl ?_
  refine Sp.go 1 (g := (49, [(0, .ref 10), (1, .int (nI h))], [.int (nI h), .ref 17, .int (nI (A.la h))])) rfl ?_
  refine Sp.iald (f := w.a 17) (j := h) rfl rfl (m_ix_of (by simp only [nI, Int32.ofNat_add, Int32.ofNat_mul] <;> rfl) (by omega) (by omega)) ?_
  rw [hj.fir hh]
  refine Sp.go 1 (g := (51, [(0, .ref 10), (1, .int (nI h))], [.ref 10, .int (nI (A.at h)), .int (nI (A.la h))])) rfl ?_
  refine Sp.get (v := .int (nI (A.T))) rfl rfl (by rw [← hj.now]; rfl) ?_
  refine Sp.icmp rfl (fun (h4 : (nI (A.at h) : Int32) ≤ (nI (A.T) : Int32)) => ?_) (fun (h4 : ¬ ((nI (A.at h) : Int32) ≤ (nI (A.T) : Int32))) => ?_)
  · skip
    refine Sp.go 1 (g := (67, [(0, .ref 10), (1, .int (nI h))], [.ref 10, .int (nI (A.la h))])) rfl ?_
    refine Sp.get (v := .int (nI (A.T))) rfl rfl (by rw [← hj.now]; rfl) ?_
    refine Sp.go 4 (g := (74, [(2, .int ((nI (A.la h)) - (nI (A.T)))), (0, .ref 10), (1, .int (nI h))], [.int (nI h), .ref 10])) rfl ?_
    refine Sp.vr none (mw (((w).sf 5 (0)).sa 18 (upd (w.a 18) h (nI (a_cutla A h))))) (k' := 73) (F' := 0) (N' := 0) (C' := 0) (S' := 0) (vs := [.int (nI h)]) (st := []) rfl rfl rfl rfl (Nat.le_of_ble_eq_true rfl) (Nat.le_of_ble_eq_true rfl) (by decide) (by decide) (Nat.zero_le _) (Nat.zero_le _) (fun Q' h => d_cutOff ho hj.t hh h) ?_
    refine Sp.go 1 (g := (78, [(2, .int ((nI (A.la h)) - (nI (A.T)))), (0, .ref 10), (1, .int (nI h))], [.ref 10])) rfl ?_
    refine Sp.get (v := .ref 16) rfl rfl rfl ?_
    refine Sp.go 2 (g := (83, [(2, .int ((nI (A.la h)) - (nI (A.T)))), (0, .ref 10), (1, .int (nI h))], [.int 4, .int (nI h), .ref 16])) rfl ?_
    refine Sp.pa16 (j := h) rfl (m_ix_of (by simp only [nI, Int32.ofNat_add, Int32.ofNat_mul] <;> rfl) (by omega) (by omega)) ?_
    refine Sp.wd (w' := (((w).sf 5 (0)).sa 18 (upd (w.a 18) h (nI (a_cutla A h)))).sa 16 (upd (w.a 16) h (4))) rfl ?_
    refine Sp.go 1 (g := (85, [(2, .int ((nI (A.la h)) - (nI (A.T)))), (0, .ref 10), (1, .int (nI h))], [.int ((nI (A.la h)) - (nI (A.T)))])) rfl ?_
    refine Sp.iret rfl (Or.inl rfl) ?_
    rw [show a_less A h = nI (A.la h) - nI A.T by unfold a_less; rw [show max (A.at h) A.T = A.T by rw [nI_le' (by omega) (by omega)] at h4; omega]] at hq; exact hq
  · skip
    refine Sp.go 1 (g := (58, [(0, .ref 10), (1, .int (nI h))], [.ref 10, .int (nI (A.la h))])) rfl ?_
    refine Sp.get (v := .ref 17) rfl rfl rfl ?_
    refine Sp.go 1 (g := (62, [(0, .ref 10), (1, .int (nI h))], [.int (nI h), .ref 17, .int (nI (A.la h))])) rfl ?_
    refine Sp.iald (f := w.a 17) (j := h) rfl rfl (m_ix_of (by simp only [nI, Int32.ofNat_add, Int32.ofNat_mul] <;> rfl) (by omega) (by omega)) ?_
    rw [hj.fir hh]
    refine Sp.go 5 (g := (74, [(2, .int ((nI (A.la h)) - (nI (A.at h)))), (0, .ref 10), (1, .int (nI h))], [.int (nI h), .ref 10])) rfl ?_
    refine Sp.vr none (mw (((w).sf 5 (0)).sa 18 (upd (w.a 18) h (nI (a_cutla A h))))) (k' := 73) (F' := 0) (N' := 0) (C' := 0) (S' := 0) (vs := [.int (nI h)]) (st := []) rfl rfl rfl rfl (Nat.le_of_ble_eq_true rfl) (Nat.le_of_ble_eq_true rfl) (by decide) (by decide) (Nat.zero_le _) (Nat.zero_le _) (fun Q' h => d_cutOff ho hj.t hh h) ?_
    refine Sp.go 1 (g := (78, [(2, .int ((nI (A.la h)) - (nI (A.at h)))), (0, .ref 10), (1, .int (nI h))], [.ref 10])) rfl ?_
    refine Sp.get (v := .ref 16) rfl rfl rfl ?_
    refine Sp.go 2 (g := (83, [(2, .int ((nI (A.la h)) - (nI (A.at h)))), (0, .ref 10), (1, .int (nI h))], [.int 4, .int (nI h), .ref 16])) rfl ?_
    refine Sp.pa16 (j := h) rfl (m_ix_of (by simp only [nI, Int32.ofNat_add, Int32.ofNat_mul] <;> rfl) (by omega) (by omega)) ?_
    refine Sp.wd (w' := (((w).sf 5 (0)).sa 18 (upd (w.a 18) h (nI (a_cutla A h)))).sa 16 (upd (w.a 16) h (4))) rfl ?_
    refine Sp.go 1 (g := (85, [(2, .int ((nI (A.la h)) - (nI (A.at h)))), (0, .ref 10), (1, .int (nI h))], [.int ((nI (A.la h)) - (nI (A.at h)))])) rfl ?_
    refine Sp.iret rfl (Or.inl rfl) ?_
    rw [show a_less A h = nI (A.la h) - nI (A.at h) by unfold a_less; rw [show max (A.at h) A.T = A.at h by rw [nI_le' (by omega) (by omega)] at h4; omega]] at hq; exact hq
theorem JR.end {w : mWd} {A : aS} (hj : JR w A) {h l f : Nat} : JR ((w.sa 18 (upd (w.a 18) h (nI l))).sa 16 (upd (w.a 16) h (nI f))) (A.end h l f) := by
  obtain ⟨⟨h1, h2, h3, h4, h5, h6, _⟩, h7⟩ := hj
  refine ⟨⟨h1, h2, h3, h4, h5, fun j hj => ?_, trivial⟩, h7⟩
  obtain ⟨k1, k2, k3, k4, k5, k6, k7⟩ := h6 j hj
  refine ⟨k1, k2, k3, ?_, k5, ?_, k7⟩
  · show upd (w.a 16) h (nI f) j = nI (if j = h then f else A.fa j)
    unfold upd; split
    · rfl
    · exact k4
  · show upd (w.a 18) h (nI l) j = nI (if j = h then l else A.la j)
    unfold upd; split
    · rfl
    · exact k6
theorem d_tick_loop {X : mX} {C S : Nat} {Q : Outcome → mM → Prop} {P t : Nat} {fa la : Nat → Nat} (hP : P ≤ 32) (ht : t ≤ 64) (hb : ∀ j, j < P → fa j ≤ 5 ∧ la j ≤ 64) : ∀ (d h c : Nat) (w : mWd), h + d = P → c = g_cnt (fun h => decide (fa h = 0 ∧ la h = t)) h → w.f 6 = nI t → w.f 8 = nI P → (∀ j, j < P → w.a 18 j = nI (la j)) → (∀ j, j < P → w.a 16 j = nI (if j < h ∧ fa j = 0 ∧ la j = t then 3 else fa j)) → (∀ R, (∀ j, j < P → R j = nI (if fa j = 0 ∧ la j = t then 3 else fa j)) → Q (.returned (some (.int (nI (g_cnt (fun h => decide (fa h = 0 ∧ la h = t)) P))))) (mw (w.sa 16 R))) → Sp X 76 0 0 C S (41, [(2, .int (nI h)), (1, .int (nI c)), (0, .ref 10)], []) (mw w) Q := by
  intro d
  induction d with
  | zero =>
    intro h c w hd hc hf6 hf8 h18 h16 kk
    refine Sp.go 2 (g := (43, [(2, .int (nI h)), (1, .int (nI c)), (0, .ref 10)], [.ref 10, .int (nI h)])) rfl ?_
    refine Sp.get (v := .int (nI P)) rfl rfl (by rw [← hf8]; rfl) ?_
    refine Sp.icmp rfl (fun u1 => ?_) (fun u1 => absurd ((nI_le' (by omega) (by omega)).mpr (by omega)) u1)
    refine Sp.go 1 (g := (88, [(2, .int (nI h)), (1, .int (nI c)), (0, .ref 10)], [.int (nI c)])) rfl ?_
    refine Sp.iret rfl (Or.inl rfl) ?_
    have e : h = P := by omega
    subst e
    have k2 := kk (w.a 16) (fun j hj => by rw [h16 j hj]; congr 1; simp only [hj, true_and])
    rw [mWd.sa_self, ← hc] at k2
    exact k2
  | succ d ih =>
    intro h c w hd hc hf6 hf8 h18 h16 kk
    have hhP : h < P := by omega
    have hbh := hb h hhP
    have e16 : w.a 16 h = nI (fa h) := by rw [h16 h hhP, if_neg (by omega)]
    have hcl : c ≤ h := by rw [hc]; exact g_cnt_le _ _
    refine Sp.go 2 (g := (43, [(2, .int (nI h)), (1, .int (nI c)), (0, .ref 10)], [.ref 10, .int (nI h)])) rfl ?_
    refine Sp.get (v := .int (nI P)) rfl rfl (by rw [← hf8]; rfl) ?_
    refine Sp.icmp rfl (fun u1 => absurd u1 (fun z => absurd ((nI_le' (by omega) (by omega)).mp z) (by omega))) (fun u1 => ?_)
    refine Sp.go 1 (g := (50, [(2, .int (nI h)), (1, .int (nI c)), (0, .ref 10)], [.ref 10])) rfl ?_
    refine Sp.get (v := .ref 16) rfl rfl rfl ?_
    refine Sp.go 1 (g := (54, [(2, .int (nI h)), (1, .int (nI c)), (0, .ref 10)], [.int (nI h), .ref 16])) rfl ?_
    refine Sp.iald (f := w.a 16) (j := h) rfl rfl (m_ix_of (by simp only [nI, Int32.ofNat_add, Int32.ofNat_mul] <;> rfl) (by omega) (by omega)) ?_
    rw [e16]
    refine Sp.if rfl (fun (h2 : ¬ (nI (fa h) : Int32) = (0 : Int32)) => ?_) (fun (h2 : ¬ (¬ (nI (fa h) : Int32) = (0 : Int32))) => ?_)
    · skip
      refine Sp.go 2 (g := (41, [(2, .int (nI h + 1)), (1, .int (nI c)), (0, .ref 10)], [])) rfl ?_
      have hp : ¬ (fa h = 0 ∧ la h = t) := by
        first | exact fun z => h2 (by rw [z.1]; rfl) | exact fun z => h3 (by rw [z.2])
      rw [show nI h + 1 = nI (h + 1) from (nI_succ h).symm]
      refine ih (h + 1) _ _ (by omega) (by simp only [g_cnt, ← hc, decide_eq_false hp]; rfl) hf6 hf8 h18 (fun j hj => ?_) kk
      rw [h16 j hj]
      congr 1
      by_cases e : j = h
      · subst e; rw [if_neg (fun z => hp z.2), if_neg (fun z => hp z.2)]
      · simp only [show j < h + 1 ↔ j < h by omega]
    · skip
      refine Sp.go 1 (g := (59, [(2, .int (nI h)), (1, .int (nI c)), (0, .ref 10)], [.ref 10])) rfl ?_
      refine Sp.get (v := .ref 18) rfl rfl rfl ?_
      refine Sp.go 1 (g := (63, [(2, .int (nI h)), (1, .int (nI c)), (0, .ref 10)], [.int (nI h), .ref 18])) rfl ?_
      refine Sp.iald (f := w.a 18) (j := h) rfl rfl (m_ix_of (by simp only [nI, Int32.ofNat_add, Int32.ofNat_mul] <;> rfl) (by omega) (by omega)) ?_
      rw [h18 h hhP]
      refine Sp.go 1 (g := (65, [(2, .int (nI h)), (1, .int (nI c)), (0, .ref 10)], [.ref 10, .int (nI (la h))])) rfl ?_
      refine Sp.get (v := .int (nI t)) rfl rfl (by rw [← hf6]; rfl) ?_
      refine Sp.icmp rfl (fun (h3 : ¬ (nI (la h) : Int32) = (nI t : Int32)) => ?_) (fun (h3 : ¬ (¬ (nI (la h) : Int32) = (nI t : Int32))) => ?_)
      · skip
        refine Sp.go 2 (g := (41, [(2, .int (nI h + 1)), (1, .int (nI c)), (0, .ref 10)], [])) rfl ?_
        have hp : ¬ (fa h = 0 ∧ la h = t) := by
          first | exact fun z => h2 (by rw [z.1]; rfl) | exact fun z => h3 (by rw [z.2])
        rw [show nI h + 1 = nI (h + 1) from (nI_succ h).symm]
        refine ih (h + 1) _ _ (by omega) (by simp only [g_cnt, ← hc, decide_eq_false hp]; rfl) hf6 hf8 h18 (fun j hj => ?_) kk
        rw [h16 j hj]
        congr 1
        by_cases e : j = h
        · subst e; rw [if_neg (fun z => hp z.2), if_neg (fun z => hp z.2)]
        · simp only [show j < h + 1 ↔ j < h by omega]
      · skip
        refine Sp.go 1 (g := (72, [(2, .int (nI h)), (1, .int (nI c)), (0, .ref 10)], [.ref 10])) rfl ?_
        refine Sp.get (v := .ref 16) rfl rfl rfl ?_
        refine Sp.go 2 (g := (77, [(2, .int (nI h)), (1, .int (nI c)), (0, .ref 10)], [.int 3, .int (nI h), .ref 16])) rfl ?_
        refine Sp.pa16 (j := h) rfl (m_ix_of (by simp only [nI, Int32.ofNat_add, Int32.ofNat_mul] <;> rfl) (by omega) (by omega)) ?_
        refine Sp.go 3 (g := (41, [(2, .int (nI h + 1)), (1, .int (nI c + 1)), (0, .ref 10)], [])) rfl ?_
        have hp : fa h = 0 ∧ la h = t := ⟨(nI_eq0 (by omega)).mp (Classical.not_not.mp h2), (nI_inj (by omega) (by omega)).mp (Classical.not_not.mp h3)⟩
        rw [show nI c + 1 = nI (c + 1) from (nI_succ c).symm]
        rw [show nI h + 1 = nI (h + 1) from (nI_succ h).symm]
        refine ih (h + 1) _ _ (by omega) (by simp only [g_cnt, ← hc, decide_eq_true hp]; rfl) hf6 hf8 h18 (fun j hj => ?_) (fun R hR => by rw [mWd.sa_sa]; exact kk R hR)
        show upd (w.a 16) h 3 j = _
        unfold upd
        split
        · rename_i e; subst e; rw [if_pos ⟨by omega, hp⟩]; rfl
        · rename_i e; rw [h16 j hj]; congr 1; simp only [show j < h + 1 ↔ j < h by omega]
theorem d_tick_b1 {X : mX} {C S : Nat} {Q : Outcome → mM → Prop} {w : mWd} {A : aS} (ho : a_ok A) (hj : JR0 w A) (h64 : A.T = 64) (hq : Q (.returned (some (.int 0))) (mw (w.sf 5 1))) : Sp X 76 0 0 C S (0, [(0, .ref 10)], []) (mw w) Q := by
  refine Sp.go 2 (g := (2, [(0, .ref 10)], [.ref 10, .ref 10])) rfl ?_
  refine Sp.get (v := .int (nI (A.T))) rfl rfl (by rw [← hj.now]; rfl) ?_
  refine Sp.go 1 (g := (7, [(0, .ref 10)], [.int 64, .int (nI (A.T)), .ref 10])) rfl ?_
  refine Sp.icmp rfl (fun u1 => absurd u1 (fun z => z (by rw [h64]; rfl))) (fun u1 => ?_)
  refine Sp.go 2 (g := (15, [(0, .ref 10)], [.int 1, .ref 10])) rfl ?_
  refine Sp.pf5 rfl ?_
  refine Sp.go 1 (g := (19, [(0, .ref 10)], [.ref 10])) rfl ?_
  refine Sp.get (v := .int 1) rfl rfl rfl ?_
  refine Sp.if rfl (fun u2 => absurd u2 (show ¬ (1 : Int32) ≤ 0 by decide)) (fun u2 => ?_)
  refine Sp.go 1 (g := (26, [(0, .ref 10)], [.int 0])) rfl ?_
  refine Sp.iret rfl (Or.inl rfl) ?_
  exact hq
theorem d_tick_ok {X : mX} {C S : Nat} {Q : Outcome → mM → Prop} {w : mWd} {A : aS} (ho : a_ok A) (hj : JR0 w A) (h64 : A.T < 64) (hf : ∀ j, j < A.P → A.fa j ≤ 5) (hq : ∀ R, (∀ j, j < A.P → R j = nI (A.tick.fa j)) → Q (.returned (some (.int (nI (g_cnt (fun h => decide (A.fa h = 0 ∧ A.la h = A.T + 1)) A.P))))) (mw (((w.sf 5 0).sf 6 (nI (A.T + 1))).sa 16 R))) : Sp X 76 0 0 C S (0, [(0, .ref 10)], []) (mw w) Q := by
  refine Sp.go 2 (g := (2, [(0, .ref 10)], [.ref 10, .ref 10])) rfl ?_
  refine Sp.get (v := .int (nI (A.T))) rfl rfl (by rw [← hj.now]; rfl) ?_
  refine Sp.go 1 (g := (7, [(0, .ref 10)], [.int 64, .int (nI (A.T)), .ref 10])) rfl ?_
  refine Sp.icmp rfl (fun u1 => ?_) (fun u1 => absurd (fun z => absurd ((nI_inj (b := 64) (by omega) (by omega)).mp z) (by omega)) u1)
  refine Sp.go 1 (g := (15, [(0, .ref 10)], [.int 0, .ref 10])) rfl ?_
  refine Sp.pf5 rfl ?_
  refine Sp.go 1 (g := (19, [(0, .ref 10)], [.ref 10])) rfl ?_
  refine Sp.get (v := .int 0) rfl rfl rfl ?_
  refine Sp.if rfl (fun u2 => ?_) (fun u2 => absurd (show (0 : Int32) ≤ 0 by decide) u2)
  refine Sp.go 2 (g := (29, [(0, .ref 10)], [.ref 10, .ref 10])) rfl ?_
  refine Sp.get (v := .int (nI (A.T))) rfl rfl (by rw [← hj.now]; rfl) ?_
  refine Sp.go 2 (g := (34, [(0, .ref 10)], [.int ((nI (A.T)) + 1), .ref 10])) rfl ?_
  refine Sp.pf6 rfl ?_
  refine Sp.go 4 (g := (41, [(2, .int 0), (1, .int 0), (0, .ref 10)], [])) rfl ?_
  rw [show nI A.T + 1 = nI (A.T + 1) from (nI_succ _).symm]
  exact d_tick_loop (fa := A.fa) (la := A.la) (t := A.T + 1) ho.2.2.1 (by omega) (fun j hj9 => ⟨hf j hj9, (ho.2.2.2.2 j hj9).2.2.1⟩) A.P 0 0 _ (by omega) rfl rfl hj.ps (fun j hj9 => hj.la hj9) (fun j hj9 => by rw [if_neg (by omega)]; exact hj.fa hj9) hq
theorem JR.tick {w : mWd} {A : aS} (hj : JR w A) {R : Nat → Int32} (hR : ∀ j, j < A.P → R j = nI (A.tick.fa j)) : JR ((w.sf 6 (nI (A.T + 1))).sa 16 R) A.tick := by
  obtain ⟨⟨h1, h2, h3, h4, h5, h6, _⟩, h7⟩ := hj
  refine ⟨⟨rfl, h2, h3, h4, h5, fun j hj => ?_, trivial⟩, h7⟩
  obtain ⟨k1, k2, k3, k4, k5, k6, k7⟩ := h6 j hj
  exact ⟨k1, k2, k3, hR j hj, k5, k6, k7⟩
def a_lacks (A : aS) (x y z : Int32) : Int32 := if a_pair A x y = false ∨ z < nI A.T ∨ ¬ z < 64 then 1 else if A.P = 32 then 2 else 0
theorem d_lacks {X : mX} {C S : Nat} {Q : Outcome → mM → Prop} {w : mWd} {A : aS} (ho : a_ok A) (hj : JR0 w A) {x y z : Int32} (hq : Q (.returned (some (.int (a_lacks A x y z)))) (mw w)) : Sp X 68 2 43 C S (0, [(0, .ref 10), (1, .int (x)), (2, .int (y)), (3, .int (z))], []) (mw w) Q := by
  have h32 := ho.2.2.1
  refine Sp.go 3 (g := (3, [(0, .ref 10), (1, .int (x)), (2, .int (y)), (3, .int (z))], [.int (y), .int (x), .ref 10])) rfl ?_
  refine Sp.vr (some (.int (m_b2 (!a_pair A (x) (y))))) (mw (w)) (k' := 55) (F' := 1) (N' := 21) (C' := 0) (S' := 0) (vs := [.int (x), .int (y)]) (st := []) rfl rfl rfl rfl (Nat.le_of_ble_eq_true rfl) (Nat.le_of_ble_eq_true rfl) (by decide) (by decide) (Nat.zero_le _) (Nat.zero_le _) (fun Q' h => d_noPair ho hj h) ?_
  refine Sp.ifbn rfl (fun h1 => ?_) (fun h1 => ?_)
  · skip
    refine Sp.go 2 (g := (41, [(0, .ref 10), (1, .int (x)), (2, .int (y)), (3, .int (z))], [.int 1])) rfl ?_
    refine Sp.iret rfl (Or.inl rfl) ?_
    rw [show a_lacks A x y z = 1 from if_pos (Or.inl (by simpa using h1))] at hq; exact hq
  · skip
    refine Sp.go 2 (g := (11, [(0, .ref 10), (1, .int (x)), (2, .int (y)), (3, .int (z))], [.ref 10, .int (z)])) rfl ?_
    refine Sp.get (v := .int (nI (A.T))) rfl rfl (by rw [← hj.now]; rfl) ?_
    refine Sp.icmp rfl (fun (h2 : (z : Int32) < (nI (A.T) : Int32)) => ?_) (fun (h2 : ¬ ((z : Int32) < (nI (A.T) : Int32))) => ?_)
    · skip
      refine Sp.go 2 (g := (41, [(0, .ref 10), (1, .int (x)), (2, .int (y)), (3, .int (z))], [.int 1])) rfl ?_
      refine Sp.iret rfl (Or.inl rfl) ?_
      rw [show a_lacks A x y z = 1 from if_pos (Or.inr (Or.inl h2))] at hq; exact hq
    · skip
      refine Sp.go 2 (g := (20, [(0, .ref 10), (1, .int (x)), (2, .int (y)), (3, .int (z))], [.int 64, .int (z)])) rfl ?_
      refine Sp.icmp rfl (fun (h3 : (z : Int32) < (64 : Int32)) => ?_) (fun (h3 : ¬ ((z : Int32) < (64 : Int32))) => ?_)
      · skip
        refine Sp.go 1 (g := (28, [(0, .ref 10), (1, .int (x)), (2, .int (y)), (3, .int (z))], [.ref 10])) rfl ?_
        refine Sp.get (v := .int (nI (A.P))) rfl rfl (by rw [← hj.ps]; rfl) ?_
        refine Sp.go 1 (g := (33, [(0, .ref 10), (1, .int (x)), (2, .int (y)), (3, .int (z))], [.int 32, .int (nI (A.P))])) rfl ?_
        refine Sp.icmp rfl (fun (h4 : ¬ (nI (A.P) : Int32) = (32 : Int32)) => ?_) (fun (h4 : ¬ (¬ (nI (A.P) : Int32) = (32 : Int32))) => ?_)
        · skip
          refine Sp.go 1 (g := (41, [(0, .ref 10), (1, .int (x)), (2, .int (y)), (3, .int (z))], [.int 0])) rfl ?_
          refine Sp.iret rfl (Or.inl rfl) ?_
          have e1 : ¬ (a_pair A x y = false ∨ z < nI A.T ∨ ¬ z < 64) := fun q => q.elim (fun q => by rw [q] at h1; exact absurd h1 (by decide)) (fun q => q.elim h2 (fun q => q h3))
          rw [show a_lacks A x y z = 0 by unfold a_lacks; rw [if_neg e1, if_neg (fun q => h4 (by rw [q]; rfl))]] at hq; exact hq
        · skip
          refine Sp.go 2 (g := (41, [(0, .ref 10), (1, .int (x)), (2, .int (y)), (3, .int (z))], [.int 2])) rfl ?_
          refine Sp.iret rfl (Or.inl rfl) ?_
          have e1 : ¬ (a_pair A x y = false ∨ z < nI A.T ∨ ¬ z < 64) := fun q => q.elim (fun q => by rw [q] at h1; exact absurd h1 (by decide)) (fun q => q.elim h2 (fun q => q h3))
          rw [show a_lacks A x y z = 2 by unfold a_lacks; rw [if_neg e1, if_pos ((nI_inj (b := 32) (by omega) (by omega)).mp (Classical.not_not.mp h4))]] at hq; exact hq
      · skip
        refine Sp.go 2 (g := (41, [(0, .ref 10), (1, .int (x)), (2, .int (y)), (3, .int (z))], [.int 1])) rfl ?_
        refine Sp.iret rfl (Or.inl rfl) ?_
        rw [show a_lacks A x y z = 1 from if_pos (Or.inr (Or.inr h3))] at hq; exact hq
theorem d_whatIf_b {X : mX} {C S : Nat} {Q : Outcome → mM → Prop} {w : mWd} {A : aS} (ho : a_ok A) (hj : JR0 w A) {x y z : Int32} (hl : ¬ a_lacks A x y z ≤ 0) (hq : Q (.returned (some (.int 0))) (mw (w.sf 5 (a_lacks A x y z)))) : Sp X 70 5 123 C S (0, [(0, .ref 10), (1, .int (x)), (2, .int (y)), (3, .int (z))], []) (mw w) Q := by
  refine Sp.go 5 (g := (5, [(0, .ref 10), (1, .int (x)), (2, .int (y)), (3, .int (z))], [.int (z), .int (y), .int (x), .ref 10, .ref 10])) rfl ?_
  refine Sp.vr (some (.int (a_lacks A (x) (y) (z)))) (mw (w)) (k' := 68) (F' := 2) (N' := 43) (C' := 0) (S' := 0) (vs := [.int (x), .int (y), .int (z)]) (st := [.ref 10]) rfl rfl rfl rfl (Nat.le_of_ble_eq_true rfl) (Nat.le_of_ble_eq_true rfl) (by decide) (by decide) (Nat.zero_le _) (Nat.zero_le _) (fun Q' h => d_lacks ho hj h) ?_
  refine Sp.pf5 rfl ?_
  refine Sp.go 1 (g := (12, [(0, .ref 10), (1, .int (x)), (2, .int (y)), (3, .int (z))], [.ref 10])) rfl ?_
  refine Sp.get (v := .int (a_lacks A (x) (y) (z))) rfl rfl rfl ?_
  refine Sp.if rfl (fun u1 => absurd u1 hl) (fun u1 => ?_)
  refine Sp.go 2 (g := (29, [(0, .ref 10), (1, .int (x)), (2, .int (y)), (3, .int (z))], [.int 0])) rfl ?_
  refine Sp.iret rfl (Or.inl rfl) ?_
  exact hq
theorem d_whatIf_ok {X : mX} {C S : Nat} {Q : Outcome → mM → Prop} {w : mWd} {A : aS} (ho : a_ok A) (hj : JR0 w A) {a g s : Nat} (ha : a < 8) (hg : g < 8) (hs : s < 64) (hl : a_lacks A (nI a) (nI g) (nI s) = 0) (hq : ∀ E, (∀ t, s ≤ t → t ≤ 64 → d_Et (a_fr A) g t E) → Q (.returned (some (.int (g_ans (g_E (a_fr A) g (64 - s) a))))) (mw ((w.sf 5 0).sa 21 E))) : Sp X 70 5 123 C S (0, [(0, .ref 10), (1, .int (nI a)), (2, .int (nI g)), (3, .int (nI s))], []) (mw w) Q := by
  refine Sp.go 5 (g := (5, [(0, .ref 10), (1, .int (nI a)), (2, .int (nI g)), (3, .int (nI s))], [.int (nI s), .int (nI g), .int (nI a), .ref 10, .ref 10])) rfl ?_
  refine Sp.vr (some (.int 0)) (mw (w)) (k' := 68) (F' := 2) (N' := 43) (C' := 0) (S' := 0) (vs := [.int (nI a), .int (nI g), .int (nI s)]) (st := [.ref 10]) rfl rfl rfl rfl (Nat.le_of_ble_eq_true rfl) (Nat.le_of_ble_eq_true rfl) (by decide) (by decide) (Nat.zero_le _) (Nat.zero_le _) (fun Q' h => d_lacks ho hj (by rw [hl]; exact h)) ?_
  refine Sp.pf5 rfl ?_
  refine Sp.go 1 (g := (12, [(0, .ref 10), (1, .int (nI a)), (2, .int (nI g)), (3, .int (nI s))], [.ref 10])) rfl ?_
  refine Sp.get (v := .int 0) rfl rfl rfl ?_
  refine Sp.if rfl (fun u1 => ?_) (fun u1 => absurd (show (0 : Int32) ≤ 0 by decide) u1)
  refine Sp.go 4 (g := (26, [(0, .ref 10), (1, .int (nI a)), (2, .int (nI g)), (3, .int (nI s))], [.int (nI s), .int (nI g), .int (nI a), .ref 10])) rfl ?_
  refine Sp.callV (Qc := fun o M' => ∃ (E : Nat → Int32), (∀ t, s ≤ t → t ≤ 64 → d_Et (a_fr A) g t E) ∧ o = .returned (some (.int (g_ans (g_E (a_fr A) g (64 - s) a)))) ∧ M' = mw (((w).sf 5 (0)).sa 21 (E))) (k' := 63) (F' := 4) (N' := 99) (C' := 0) (S' := 0) (vs := [.int (nI a), .int (nI g), .int (nI s)]) (st := []) rfl rfl rfl rfl (Nat.le_of_ble_eq_true rfl) (Nat.le_of_ble_eq_true rfl) (by decide) (by decide) (Nat.zero_le _) (Nat.zero_le _) (d_best ho hj.t (by omega) (by omega) (by omega) (fun E hE => ⟨E, hE, rfl, rfl⟩)) (fun v M' h => ?_) (fun q M' h => by obtain ⟨_, _, h, _⟩ := h; cases h)
  obtain ⟨E, hE, h, rfl⟩ := h
  cases h
  refine Sp.iret rfl (Or.inl rfl) ?_
  exact hq E hE
theorem d_book_b {X : mX} {C S : Nat} {Q : Outcome → mM → Prop} {w : mWd} {A : aS} (ho : a_ok A) (hj : JR0 w A) {x y z : Int32} (hl : ¬ a_lacks A x y z ≤ 0) (hq : Q (.returned (some (.int 0))) (mw (w.sf 5 (a_lacks A x y z)))) : Sp X 69 5 123 C S (0, [(0, .ref 10), (1, .int (x)), (2, .int (y)), (3, .int (z))], []) (mw w) Q := by
  refine Sp.go 5 (g := (5, [(0, .ref 10), (1, .int (x)), (2, .int (y)), (3, .int (z))], [.int (z), .int (y), .int (x), .ref 10, .ref 10])) rfl ?_
  refine Sp.vr (some (.int (a_lacks A (x) (y) (z)))) (mw (w)) (k' := 68) (F' := 2) (N' := 43) (C' := 0) (S' := 0) (vs := [.int (x), .int (y), .int (z)]) (st := [.ref 10]) rfl rfl rfl rfl (Nat.le_of_ble_eq_true rfl) (Nat.le_of_ble_eq_true rfl) (by decide) (by decide) (Nat.zero_le _) (Nat.zero_le _) (fun Q' h => d_lacks ho hj h) ?_
  refine Sp.pf5 rfl ?_
  refine Sp.go 1 (g := (12, [(0, .ref 10), (1, .int (x)), (2, .int (y)), (3, .int (z))], [.ref 10])) rfl ?_
  refine Sp.get (v := .int (a_lacks A (x) (y) (z))) rfl rfl rfl ?_
  refine Sp.if rfl (fun u1 => absurd u1 hl) (fun u1 => ?_)
  refine Sp.go 1 (g := (19, [(0, .ref 10), (1, .int (x)), (2, .int (y)), (3, .int (z))], [.int 0])) rfl ?_
  refine Sp.iret rfl (Or.inl rfl) ?_
  exact hq
theorem d_book_none {X : mX} {C S : Nat} {Q : Outcome → mM → Prop} {w : mWd} {A : aS} (ho : a_ok A) (hj : JR0 w A) {a g s : Nat} (ha : a < 8) (hg : g < 8) (hs : s < 64) (hl : a_lacks A (nI a) (nI g) (nI s) = 0) (hn : g_E (a_fr A) g (64 - s) a = 99) (hq : ∀ E, Q (.returned (some (.int (-1)))) (mw ((w.sf 5 0).sa 21 E))) : Sp X 69 5 123 C S (0, [(0, .ref 10), (1, .int (nI a)), (2, .int (nI g)), (3, .int (nI s))], []) (mw w) Q := by
  refine Sp.go 5 (g := (5, [(0, .ref 10), (1, .int (nI a)), (2, .int (nI g)), (3, .int (nI s))], [.int (nI s), .int (nI g), .int (nI a), .ref 10, .ref 10])) rfl ?_
  refine Sp.vr (some (.int 0)) (mw (w)) (k' := 68) (F' := 2) (N' := 43) (C' := 0) (S' := 0) (vs := [.int (nI a), .int (nI g), .int (nI s)]) (st := [.ref 10]) rfl rfl rfl rfl (Nat.le_of_ble_eq_true rfl) (Nat.le_of_ble_eq_true rfl) (by decide) (by decide) (Nat.zero_le _) (Nat.zero_le _) (fun Q' h => d_lacks ho hj (by rw [hl]; exact h)) ?_
  refine Sp.pf5 rfl ?_
  refine Sp.go 1 (g := (12, [(0, .ref 10), (1, .int (nI a)), (2, .int (nI g)), (3, .int (nI s))], [.ref 10])) rfl ?_
  refine Sp.get (v := .int 0) rfl rfl rfl ?_
  refine Sp.if rfl (fun u1 => ?_) (fun u1 => absurd (show (0 : Int32) ≤ 0 by decide) u1)
  refine Sp.go 4 (g := (24, [(0, .ref 10), (1, .int (nI a)), (2, .int (nI g)), (3, .int (nI s))], [.int (nI s), .int (nI g), .int (nI a), .ref 10])) rfl ?_
  refine Sp.callV (Qc := fun o M' => ∃ (E : Nat → Int32), (∀ t, s ≤ t → t ≤ 64 → d_Et (a_fr A) g t E) ∧ o = .returned (some (.int (g_ans (g_E (a_fr A) g (64 - s) a)))) ∧ M' = mw (((w).sf 5 (0)).sa 21 (E))) (k' := 63) (F' := 4) (N' := 99) (C' := 0) (S' := 0) (vs := [.int (nI a), .int (nI g), .int (nI s)]) (st := []) rfl rfl rfl rfl (Nat.le_of_ble_eq_true rfl) (Nat.le_of_ble_eq_true rfl) (by decide) (by decide) (Nat.zero_le _) (Nat.zero_le _) (d_best ho hj.t (by omega) (by omega) (by omega) (fun E hE => ⟨E, hE, rfl, rfl⟩)) (fun v M' h => ?_) (fun q M' h => by obtain ⟨_, _, h, _⟩ := h; cases h)
  obtain ⟨E, hE, h, rfl⟩ := h
  cases h
  refine Sp.go 1 (g := (28, [(0, .ref 10), (1, .int (nI a)), (2, .int (nI g)), (3, .int (nI s))], [.int (-1), .int (g_ans (g_E (a_fr A) g (64 - s) a))])) rfl ?_
  refine Sp.icmp rfl (fun u2 => absurd u2 (fun z => z (by rw [hn]; rfl))) (fun u2 => ?_)
  refine Sp.go 1 (g := (32, [(0, .ref 10), (1, .int (nI a)), (2, .int (nI g)), (3, .int (nI s))], [.int (-1)])) rfl ?_
  refine Sp.iret rfl (Or.inl rfl) ?_
  exact hq E
theorem g_ans_ne {e : Nat} (h : e ≤ 64) : ¬ g_ans e = -1 := by
  unfold g_ans
  rw [if_neg (by omega)]
  intro z
  have h1 := nI_pos (n := e) (by omega)
  rw [z] at h1
  exact h1 (by decide)
theorem d_book_ok {X : mX} {C S : Nat} {Q : Outcome → mM → Prop} {w : mWd} {A : aS} (ho : a_ok A) (hjr : JR w A) {a g s : Nat} (ha : a < 8) (hg : g < 8) (hs : s < 64) (hl : a_lacks A (nI a) (nI g) (nI s) = 0) (h32 : A.P < 32) (hn8 : ∀ i, i < 65 → A.nd A.P i < 8) {e : Nat} (he1 : g_E (a_fr A) g (64 - s) a = e) (he2 : e ≤ 64) (hse : s ≤ e) (hq : ∀ E r, (∀ i, i < 65 → r i < 8) → (∀ i, i < s ∨ e < i → r i = A.nd A.P i) → g_W (a_fr A) g a s e r → Q (.returned (some (.int (nI A.P)))) (mw ((((((((((w.sf 5 0).sa 21 E).sa 19 (d_row (w.a 19) A.P r)).sa 18 (upd (w.a 18) A.P (nI e))).sa 14 (upd (w.a 14) A.P (nI a))).sa 13 (upd (w.a 13) A.P (nI g))).sa 15 (upd (w.a 15) A.P (nI s))).sa 17 (upd (w.a 17) A.P (nI s))).sa 16 (upd (w.a 16) A.P 0)).sf 8 (nI A.P + 1)))) : Sp X 69 5 123 C S (0, [(0, .ref 10), (1, .int (nI a)), (2, .int (nI g)), (3, .int (nI s))], []) (mw w) Q := by
  have hj : JR0 w A := hjr.1
  refine Sp.go 5 (g := (5, [(0, .ref 10), (1, .int (nI a)), (2, .int (nI g)), (3, .int (nI s))], [.int (nI s), .int (nI g), .int (nI a), .ref 10, .ref 10])) rfl ?_
  refine Sp.vr (some (.int 0)) (mw (w)) (k' := 68) (F' := 2) (N' := 43) (C' := 0) (S' := 0) (vs := [.int (nI a), .int (nI g), .int (nI s)]) (st := [.ref 10]) rfl rfl rfl rfl (Nat.le_of_ble_eq_true rfl) (Nat.le_of_ble_eq_true rfl) (by decide) (by decide) (Nat.zero_le _) (Nat.zero_le _) (fun Q' h => d_lacks ho hj (by rw [hl]; exact h)) ?_
  refine Sp.pf5 rfl ?_
  refine Sp.go 1 (g := (12, [(0, .ref 10), (1, .int (nI a)), (2, .int (nI g)), (3, .int (nI s))], [.ref 10])) rfl ?_
  refine Sp.get (v := .int 0) rfl rfl rfl ?_
  refine Sp.if rfl (fun u1 => ?_) (fun u1 => absurd (show (0 : Int32) ≤ 0 by decide) u1)
  refine Sp.go 4 (g := (24, [(0, .ref 10), (1, .int (nI a)), (2, .int (nI g)), (3, .int (nI s))], [.int (nI s), .int (nI g), .int (nI a), .ref 10])) rfl ?_
  refine Sp.callV (Qc := fun o M' => ∃ (E : Nat → Int32), (∀ t, s ≤ t → t ≤ 64 → d_Et (a_fr A) g t E) ∧ o = .returned (some (.int (g_ans (g_E (a_fr A) g (64 - s) a)))) ∧ M' = mw (((w).sf 5 (0)).sa 21 (E))) (k' := 63) (F' := 4) (N' := 99) (C' := 0) (S' := 0) (vs := [.int (nI a), .int (nI g), .int (nI s)]) (st := []) rfl rfl rfl rfl (Nat.le_of_ble_eq_true rfl) (Nat.le_of_ble_eq_true rfl) (by decide) (by decide) (Nat.zero_le _) (Nat.zero_le _) (d_best ho hj.t (by omega) (by omega) (by omega) (fun E hE => ⟨E, hE, rfl, rfl⟩)) (fun v M' h => ?_) (fun q M' h => by obtain ⟨_, _, h, _⟩ := h; cases h)
  obtain ⟨E, hE, h, rfl⟩ := h
  cases h
  refine Sp.go 1 (g := (28, [(0, .ref 10), (1, .int (nI a)), (2, .int (nI g)), (3, .int (nI s))], [.int (-1), .int (g_ans (g_E (a_fr A) g (64 - s) a))])) rfl ?_
  refine Sp.icmp rfl (fun u2 => ?_) (fun u2 => absurd (fun z => absurd z (by rw [he1]; exact g_ans_ne he2)) u2)
  refine Sp.go 1 (g := (34, [(0, .ref 10), (1, .int (nI a)), (2, .int (nI g)), (3, .int (nI s))], [.ref 10])) rfl ?_
  refine Sp.get (v := .int (nI (A.P))) rfl rfl (by rw [← hj.ps]; rfl) ?_
  refine Sp.go 5 (g := (44, [(4, .int (nI (A.P))), (0, .ref 10), (1, .int (nI a)), (2, .int (nI g)), (3, .int (nI s))], [.int (nI s), .int (nI a), .int (nI (A.P)), .ref 10])) rfl ?_
  refine Sp.callV (Qc := fun o M' => ∃ (r : Nat → Nat), (∀ i, i < 65 → r i < 8) ∧ (∀ i, i < s ∨ e < i → r i = A.nd A.P i) ∧ (g_W (a_fr A) g a s e r) ∧ o = .returned (none) ∧ M' = mw (((((w).sf 5 (0)).sa 21 (E)).sa 19 (d_row (w.a 19) A.P r)).sa 18 (upd (w.a 18) A.P (nI e)))) (k' := 64) (F' := 3) (N' := 72) (C' := 0) (S' := 0) (vs := [.int (nI (A.P)), .int (nI a), .int (nI s)]) (st := []) rfl rfl rfl rfl (Nat.le_of_ble_eq_true rfl) (Nat.le_of_ble_eq_true rfl) (by decide) (by decide) (Nat.zero_le _) (Nat.zero_le _) (d_lay (A := A) (g := g) (e := e) (r := A.nd A.P) ho (by omega) (by omega) (by omega) (by omega) (by omega) (fun z => absurd z (by omega)) (fun i hi => ⟨hjr.2 A.P h32 i hi, hn8 i hi⟩) hj (fun t h1 h2 => hE t h1 h2) he1 (fun r hr1 hr2 hr3 => ⟨r, hr1, hr2, hr3, rfl, rfl⟩)) (fun v M' h => ?_) (fun q M' h => by obtain ⟨_, _, _, _, h, _⟩ := h; cases h)
  obtain ⟨r, hr1, hr2, hr3, h, rfl⟩ := h
  cases h
  refine Sp.go 1 (g := (48, [(4, .int (nI (A.P))), (0, .ref 10), (1, .int (nI a)), (2, .int (nI g)), (3, .int (nI s))], [.ref 10])) rfl ?_
  refine Sp.get (v := .ref 14) rfl rfl rfl ?_
  refine Sp.go 2 (g := (54, [(4, .int (nI (A.P))), (0, .ref 10), (1, .int (nI a)), (2, .int (nI g)), (3, .int (nI s))], [.int (nI a), .int (nI (A.P)), .ref 14])) rfl ?_
  refine Sp.pa14 (j := A.P) rfl (m_ix_of (by simp only [nI, Int32.ofNat_add, Int32.ofNat_mul] <;> rfl) (by omega) (by omega)) ?_
  refine Sp.wd (w' := (((((w).sf 5 (0)).sa 21 (E)).sa 19 (d_row (w.a 19) A.P r)).sa 18 (upd (w.a 18) A.P (nI e))).sa 14 (upd (w.a 14) (A.P) (nI a))) rfl ?_
  refine Sp.go 1 (g := (56, [(4, .int (nI (A.P))), (0, .ref 10), (1, .int (nI a)), (2, .int (nI g)), (3, .int (nI s))], [.ref 10])) rfl ?_
  refine Sp.get (v := .ref 13) rfl rfl rfl ?_
  refine Sp.go 2 (g := (62, [(4, .int (nI (A.P))), (0, .ref 10), (1, .int (nI a)), (2, .int (nI g)), (3, .int (nI s))], [.int (nI g), .int (nI (A.P)), .ref 13])) rfl ?_
  refine Sp.pa13 (j := A.P) rfl (m_ix_of (by simp only [nI, Int32.ofNat_add, Int32.ofNat_mul] <;> rfl) (by omega) (by omega)) ?_
  refine Sp.wd (w' := ((((((w).sf 5 (0)).sa 21 (E)).sa 19 (d_row (w.a 19) A.P r)).sa 18 (upd (w.a 18) A.P (nI e))).sa 14 (upd (w.a 14) (A.P) (nI a))).sa 13 (upd (w.a 13) (A.P) (nI g))) rfl ?_
  refine Sp.go 1 (g := (64, [(4, .int (nI (A.P))), (0, .ref 10), (1, .int (nI a)), (2, .int (nI g)), (3, .int (nI s))], [.ref 10])) rfl ?_
  refine Sp.get (v := .ref 15) rfl rfl rfl ?_
  refine Sp.go 2 (g := (70, [(4, .int (nI (A.P))), (0, .ref 10), (1, .int (nI a)), (2, .int (nI g)), (3, .int (nI s))], [.int (nI s), .int (nI (A.P)), .ref 15])) rfl ?_
  refine Sp.pa15 (j := A.P) rfl (m_ix_of (by simp only [nI, Int32.ofNat_add, Int32.ofNat_mul] <;> rfl) (by omega) (by omega)) ?_
  refine Sp.wd (w' := (((((((w).sf 5 (0)).sa 21 (E)).sa 19 (d_row (w.a 19) A.P r)).sa 18 (upd (w.a 18) A.P (nI e))).sa 14 (upd (w.a 14) (A.P) (nI a))).sa 13 (upd (w.a 13) (A.P) (nI g))).sa 15 (upd (w.a 15) (A.P) (nI s))) rfl ?_
  refine Sp.go 1 (g := (72, [(4, .int (nI (A.P))), (0, .ref 10), (1, .int (nI a)), (2, .int (nI g)), (3, .int (nI s))], [.ref 10])) rfl ?_
  refine Sp.get (v := .ref 17) rfl rfl rfl ?_
  refine Sp.go 2 (g := (78, [(4, .int (nI (A.P))), (0, .ref 10), (1, .int (nI a)), (2, .int (nI g)), (3, .int (nI s))], [.int (nI s), .int (nI (A.P)), .ref 17])) rfl ?_
  refine Sp.pa17 (j := A.P) rfl (m_ix_of (by simp only [nI, Int32.ofNat_add, Int32.ofNat_mul] <;> rfl) (by omega) (by omega)) ?_
  refine Sp.wd (w' := ((((((((w).sf 5 (0)).sa 21 (E)).sa 19 (d_row (w.a 19) A.P r)).sa 18 (upd (w.a 18) A.P (nI e))).sa 14 (upd (w.a 14) (A.P) (nI a))).sa 13 (upd (w.a 13) (A.P) (nI g))).sa 15 (upd (w.a 15) (A.P) (nI s))).sa 17 (upd (w.a 17) (A.P) (nI s))) rfl ?_
  refine Sp.go 1 (g := (80, [(4, .int (nI (A.P))), (0, .ref 10), (1, .int (nI a)), (2, .int (nI g)), (3, .int (nI s))], [.ref 10])) rfl ?_
  refine Sp.get (v := .ref 16) rfl rfl rfl ?_
  refine Sp.go 2 (g := (86, [(4, .int (nI (A.P))), (0, .ref 10), (1, .int (nI a)), (2, .int (nI g)), (3, .int (nI s))], [.int 0, .int (nI (A.P)), .ref 16])) rfl ?_
  refine Sp.pa16 (j := A.P) rfl (m_ix_of (by simp only [nI, Int32.ofNat_add, Int32.ofNat_mul] <;> rfl) (by omega) (by omega)) ?_
  refine Sp.wd (w' := (((((((((w).sf 5 (0)).sa 21 (E)).sa 19 (d_row (w.a 19) A.P r)).sa 18 (upd (w.a 18) A.P (nI e))).sa 14 (upd (w.a 14) (A.P) (nI a))).sa 13 (upd (w.a 13) (A.P) (nI g))).sa 15 (upd (w.a 15) (A.P) (nI s))).sa 17 (upd (w.a 17) (A.P) (nI s))).sa 16 (upd (w.a 16) (A.P) (0))) rfl ?_
  refine Sp.go 2 (g := (89, [(4, .int (nI (A.P))), (0, .ref 10), (1, .int (nI a)), (2, .int (nI g)), (3, .int (nI s))], [.ref 10, .ref 10])) rfl ?_
  refine Sp.get (v := .int (nI (A.P))) rfl rfl (by rw [← hj.ps]; rfl) ?_
  refine Sp.go 2 (g := (94, [(4, .int (nI (A.P))), (0, .ref 10), (1, .int (nI a)), (2, .int (nI g)), (3, .int (nI s))], [.int ((nI (A.P)) + 1), .ref 10])) rfl ?_
  refine Sp.pf8 rfl ?_
  refine Sp.go 1 (g := (99, [(4, .int (nI (A.P))), (0, .ref 10), (1, .int (nI a)), (2, .int (nI g)), (3, .int (nI s))], [.int (nI (A.P))])) rfl ?_
  refine Sp.iret rfl (Or.inl rfl) ?_
  exact hq E r hr1 hr2 hr3
theorem JR.book {w : mWd} {A : aS} (hj : JR w A) {a g s e : Nat} {r : Nat → Nat} {E : Nat → Int32} {v : Int32} (ha : r s = a) : JR ((((((((((w.sf 5 v).sa 21 E).sa 19 (d_row (w.a 19) A.P r)).sa 18 (upd (w.a 18) A.P (nI e))).sa 14 (upd (w.a 14) A.P (nI a))).sa 13 (upd (w.a 13) A.P (nI g))).sa 15 (upd (w.a 15) A.P (nI s))).sa 17 (upd (w.a 17) A.P (nI s))).sa 16 (upd (w.a 16) A.P 0)).sf 8 (nI A.P + 1)) (A.book g s e r) := by
  obtain ⟨⟨h1, h2, h3, h4, h5, h6, _⟩, h7⟩ := hj
  have hnd : ∀ j, j < 32 → ∀ i, i < 65 → d_row (w.a 19) A.P r (65 * j + i) = nI ((if j = A.P then r else A.nd j) i) := by
    intro j hj i hi
    split
    · rename_i e; subst e; exact d_row_at hi
    · rename_i e; rw [d_row_ne hi e]; exact h7 j hj i hi
  refine ⟨⟨h1, h2, (nI_succ _).symm, h4, h5, fun j hj => ?_, trivial⟩, hnd⟩
  have hj : j < A.P + 1 := hj
  show upd (w.a 13) A.P (nI g) j = nI (if j = A.P then g else A.go j) ∧ upd (w.a 14) A.P (nI a) j = nI ((if j = A.P then r else A.nd j) (if j = A.P then s else A.at j)) ∧ upd (w.a 15) A.P (nI s) j = nI (if j = A.P then s else A.at j) ∧ upd (w.a 16) A.P 0 j = nI (if j = A.P then 0 else A.fa j) ∧ upd (w.a 17) A.P (nI s) j = nI (if j = A.P then s else A.at j) ∧ upd (w.a 18) A.P (nI e) j = nI (if j = A.P then e else A.la j) ∧ ∀ i, i < 65 → d_row (w.a 19) A.P r (65 * j + i) = nI ((if j = A.P then r else A.nd j) i)
  unfold upd
  by_cases ej : j = A.P
  · refine ⟨by rw [if_pos ej, if_pos ej], by rw [if_pos ej, if_pos ej, if_pos ej, ha], by rw [if_pos ej, if_pos ej], by rw [if_pos ej, if_pos ej]; rfl, by rw [if_pos ej, if_pos ej], by rw [if_pos ej, if_pos ej], fun i hi => ?_⟩
    rw [if_pos ej, ej]; exact d_row_at hi
  · simp only [if_neg ej]
    obtain ⟨k1, k2, k3, k4, k5, k6, k7⟩ := h6 j (by omega)
    exact ⟨k1, k2, k3, k4, k5, k6, fun i hi => by rw [d_row_ne hi ej]; exact k7 i hi⟩
end

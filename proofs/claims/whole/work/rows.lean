section
-- ===== PART A: goes FIRST, ahead of the names: the tables' words, and 'selects' of the private methods out of them =====
/-- a private method of a class that the tables say can be made, by its rows of tables_1 -/
def lw_okq (q : MethodName × Nat) : Prop := (q.1.cls ≠ "java/lang/invoke/MethodHandle" ∧ q.1.cls ≠ "java/lang/invoke/VarHandle") ∧ Cond.instantiable q.1.cls q.2 ∈ tables_1 ∧ Cond.privateMethod q.1 ∈ tables_1 ∧ Cond.instanceMethod q.1 ∈ tables_1
theorem lw_p0 : lw_okq (⟨"HourStore", "refusal", "(IZ)J"⟩, 7) := ⟨⟨by decide +kernel, by decide +kernel⟩, List.mem_of_getElem? (i := 15) (by decide +kernel), List.mem_of_getElem? (i := 378) (by decide +kernel), List.mem_of_getElem? (i := 379) (by decide +kernel)⟩
theorem lw_p1 : lw_okq (⟨"HourStore", "isStepNow", "(I)Z"⟩, 7) := ⟨⟨by decide +kernel, by decide +kernel⟩, List.mem_of_getElem? (i := 15) (by decide +kernel), List.mem_of_getElem? (i := 403) (by decide +kernel), List.mem_of_getElem? (i := 404) (by decide +kernel)⟩
theorem lw_p2 : lw_okq (⟨"HourStore$Line", "faultAt", "(LHourStore$Battery;II)I"⟩, 3) := ⟨⟨by decide +kernel, by decide +kernel⟩, List.mem_of_getElem? (i := 23) (by decide +kernel), List.mem_of_getElem? (i := 427) (by decide +kernel), List.mem_of_getElem? (i := 428) (by decide +kernel)⟩
theorem lw_p3 : lw_okq (⟨"HourStore$Planner", "openStep", "(LHourStore$Battery;II)V"⟩, 10) := ⟨⟨by decide +kernel, by decide +kernel⟩, List.mem_of_getElem? (i := 140) (by decide +kernel), List.mem_of_getElem? (i := 484) (by decide +kernel), List.mem_of_getElem? (i := 485) (by decide +kernel)⟩
theorem lw_p4 : lw_okq (⟨"HourStore$Planner", "sumOfPrices", "(II)J"⟩, 10) := ⟨⟨by decide +kernel, by decide +kernel⟩, List.mem_of_getElem? (i := 140) (by decide +kernel), List.mem_of_getElem? (i := 495) (by decide +kernel), List.mem_of_getElem? (i := 496) (by decide +kernel)⟩
theorem lw_p5 : lw_okq (⟨"HourStore$Planner", "greatest", "(II)J"⟩, 10) := ⟨⟨by decide +kernel, by decide +kernel⟩, List.mem_of_getElem? (i := 140) (by decide +kernel), List.mem_of_getElem? (i := 509) (by decide +kernel), List.mem_of_getElem? (i := 510) (by decide +kernel)⟩
theorem lw_p6 : lw_okq (⟨"HourStore$Planner", "lastMove", "(I)I"⟩, 10) := ⟨⟨by decide +kernel, by decide +kernel⟩, List.mem_of_getElem? (i := 140) (by decide +kernel), List.mem_of_getElem? (i := 513) (by decide +kernel), List.mem_of_getElem? (i := 514) (by decide +kernel)⟩
theorem lw_p7 : lw_okq (⟨"HourStore$Planner", "firstMove", "(I)I"⟩, 10) := ⟨⟨by decide +kernel, by decide +kernel⟩, List.mem_of_getElem? (i := 140) (by decide +kernel), List.mem_of_getElem? (i := 517) (by decide +kernel), List.mem_of_getElem? (i := 518) (by decide +kernel)⟩
theorem lw_p8 : lw_okq (⟨"HourStore$Planner", "worthThrough", "(III)J"⟩, 10) := ⟨⟨by decide +kernel, by decide +kernel⟩, List.mem_of_getElem? (i := 140) (by decide +kernel), List.mem_of_getElem? (i := 521) (by decide +kernel), List.mem_of_getElem? (i := 522) (by decide +kernel)⟩
theorem lw_p9 : lw_okq (⟨"HourStore$Planner", "leastBest", "(II)I"⟩, 10) := ⟨⟨by decide +kernel, by decide +kernel⟩, List.mem_of_getElem? (i := 140) (by decide +kernel), List.mem_of_getElem? (i := 534) (by decide +kernel), List.mem_of_getElem? (i := 535) (by decide +kernel)⟩
theorem lw_p10 : lw_okq (⟨"HourStore$Planner", "spreadWays", "(II)V"⟩, 10) := ⟨⟨by decide +kernel, by decide +kernel⟩, List.mem_of_getElem? (i := 140) (by decide +kernel), List.mem_of_getElem? (i := 550) (by decide +kernel), List.mem_of_getElem? (i := 551) (by decide +kernel)⟩
theorem lw_p11 : lw_okq (⟨"HourStore$Meters", "nearestAhead", "(I)I"⟩, 1) := ⟨⟨by decide +kernel, by decide +kernel⟩, List.mem_of_getElem? (i := 201) (by decide +kernel), List.mem_of_getElem? (i := 618) (by decide +kernel), List.mem_of_getElem? (i := 619) (by decide +kernel)⟩
theorem lw_p12 : lw_okq (⟨"HourStore$Meters", "nearestBehind", "(I)I"⟩, 1) := ⟨⟨by decide +kernel, by decide +kernel⟩, List.mem_of_getElem? (i := 201) (by decide +kernel), List.mem_of_getElem? (i := 622) (by decide +kernel), List.mem_of_getElem? (i := 623) (by decide +kernel)⟩
theorem lw_p13 : lw_okq (⟨"HourStore", "storesThere", "()I"⟩, 7) := ⟨⟨by decide +kernel, by decide +kernel⟩, List.mem_of_getElem? (i := 15) (by decide +kernel), List.mem_of_getElem? (i := 684) (by decide +kernel), List.mem_of_getElem? (i := 685) (by decide +kernel)⟩
theorem lw_p14 : lw_okq (⟨"HourStore", "worldsThere", "()I"⟩, 7) := ⟨⟨by decide +kernel, by decide +kernel⟩, List.mem_of_getElem? (i := 15) (by decide +kernel), List.mem_of_getElem? (i := 688) (by decide +kernel), List.mem_of_getElem? (i := 689) (by decide +kernel)⟩
theorem lw_p15 : lw_okq (⟨"HourStoreModel", "priceOf", "(II)I"⟩, 24) := ⟨⟨by decide +kernel, by decide +kernel⟩, List.mem_of_getElem? (i := 704) (by decide +kernel), List.mem_of_getElem? (i := 831) (by decide +kernel), List.mem_of_getElem? (i := 832) (by decide +kernel)⟩
def lw_privs_1 : List (MethodName × Nat) := [(⟨"HourStore", "refusal", "(IZ)J"⟩, 7), (⟨"HourStore", "isStepNow", "(I)Z"⟩, 7), (⟨"HourStore$Line", "faultAt", "(LHourStore$Battery;II)I"⟩, 3), (⟨"HourStore$Planner", "openStep", "(LHourStore$Battery;II)V"⟩, 10), (⟨"HourStore$Planner", "sumOfPrices", "(II)J"⟩, 10), (⟨"HourStore$Planner", "greatest", "(II)J"⟩, 10), (⟨"HourStore$Planner", "lastMove", "(I)I"⟩, 10), (⟨"HourStore$Planner", "firstMove", "(I)I"⟩, 10), (⟨"HourStore$Planner", "worthThrough", "(III)J"⟩, 10), (⟨"HourStore$Planner", "leastBest", "(II)I"⟩, 10), (⟨"HourStore$Planner", "spreadWays", "(II)V"⟩, 10), (⟨"HourStore$Meters", "nearestAhead", "(I)I"⟩, 1), (⟨"HourStore$Meters", "nearestBehind", "(I)I"⟩, 1), (⟨"HourStore", "storesThere", "()I"⟩, 7), (⟨"HourStore", "worldsThere", "()I"⟩, 7), (⟨"HourStoreModel", "priceOf", "(II)I"⟩, 24)]
theorem lw_r1 : ∀ q ∈ lw_privs_1, lw_okq q := List.forall_mem_cons.mpr ⟨lw_p0, List.forall_mem_cons.mpr ⟨lw_p1, List.forall_mem_cons.mpr ⟨lw_p2, List.forall_mem_cons.mpr ⟨lw_p3, List.forall_mem_cons.mpr ⟨lw_p4, List.forall_mem_cons.mpr ⟨lw_p5, List.forall_mem_cons.mpr ⟨lw_p6, List.forall_mem_cons.mpr ⟨lw_p7, List.forall_mem_cons.mpr ⟨lw_p8, List.forall_mem_cons.mpr ⟨lw_p9, List.forall_mem_cons.mpr ⟨lw_p10, List.forall_mem_cons.mpr ⟨lw_p11, List.forall_mem_cons.mpr ⟨lw_p12, List.forall_mem_cons.mpr ⟨lw_p13, List.forall_mem_cons.mpr ⟨lw_p14, List.forall_mem_cons.mpr ⟨lw_p15, fun _ h => absurd h List.not_mem_nil⟩⟩⟩⟩⟩⟩⟩⟩⟩⟩⟩⟩⟩⟩⟩⟩
theorem lw_p16 : lw_okq (⟨"HourStoreModel", "floorOf", "(I)I"⟩, 24) := ⟨⟨by decide +kernel, by decide +kernel⟩, List.mem_of_getElem? (i := 704) (by decide +kernel), List.mem_of_getElem? (i := 850) (by decide +kernel), List.mem_of_getElem? (i := 851) (by decide +kernel)⟩
theorem lw_p17 : lw_okq (⟨"HourStoreModel", "asked", "(I)J"⟩, 24) := ⟨⟨by decide +kernel, by decide +kernel⟩, List.mem_of_getElem? (i := 704) (by decide +kernel), List.mem_of_getElem? (i := 858) (by decide +kernel), List.mem_of_getElem? (i := 859) (by decide +kernel)⟩
theorem lw_p18 : lw_okq (⟨"HourStoreModel", "topOf", "(I)I"⟩, 24) := ⟨⟨by decide +kernel, by decide +kernel⟩, List.mem_of_getElem? (i := 704) (by decide +kernel), List.mem_of_getElem? (i := 862) (by decide +kernel), List.mem_of_getElem? (i := 863) (by decide +kernel)⟩
theorem lw_p19 : lw_okq (⟨"HourStoreModel", "isOld", "(I)Z"⟩, 24) := ⟨⟨by decide +kernel, by decide +kernel⟩, List.mem_of_getElem? (i := 704) (by decide +kernel), List.mem_of_getElem? (i := 866) (by decide +kernel), List.mem_of_getElem? (i := 867) (by decide +kernel)⟩
theorem lw_p20 : lw_okq (⟨"HourStoreModel", "in", "(I)I"⟩, 24) := ⟨⟨by decide +kernel, by decide +kernel⟩, List.mem_of_getElem? (i := 704) (by decide +kernel), List.mem_of_getElem? (i := 878) (by decide +kernel), List.mem_of_getElem? (i := 879) (by decide +kernel)⟩
theorem lw_p21 : lw_okq (⟨"HourStoreModel", "isQuick", "(I)Z"⟩, 24) := ⟨⟨by decide +kernel, by decide +kernel⟩, List.mem_of_getElem? (i := 704) (by decide +kernel), List.mem_of_getElem? (i := 882) (by decide +kernel), List.mem_of_getElem? (i := 883) (by decide +kernel)⟩
theorem lw_p22 : lw_okq (⟨"HourStoreModel", "out", "(I)I"⟩, 24) := ⟨⟨by decide +kernel, by decide +kernel⟩, List.mem_of_getElem? (i := 704) (by decide +kernel), List.mem_of_getElem? (i := 886) (by decide +kernel), List.mem_of_getElem? (i := 887) (by decide +kernel)⟩
theorem lw_p23 : lw_okq (⟨"HourStoreModel", "loss", "(I)I"⟩, 24) := ⟨⟨by decide +kernel, by decide +kernel⟩, List.mem_of_getElem? (i := 704) (by decide +kernel), List.mem_of_getElem? (i := 890) (by decide +kernel), List.mem_of_getElem? (i := 891) (by decide +kernel)⟩
theorem lw_p24 : lw_okq (⟨"HourStoreModel", "isStep", "(I)Z"⟩, 24) := ⟨⟨by decide +kernel, by decide +kernel⟩, List.mem_of_getElem? (i := 704) (by decide +kernel), List.mem_of_getElem? (i := 902) (by decide +kernel), List.mem_of_getElem? (i := 903) (by decide +kernel)⟩
theorem lw_p25 : lw_okq (⟨"HourStoreModel", "behindOf", "(II)I"⟩, 24) := ⟨⟨by decide +kernel, by decide +kernel⟩, List.mem_of_getElem? (i := 704) (by decide +kernel), List.mem_of_getElem? (i := 916) (by decide +kernel), List.mem_of_getElem? (i := 917) (by decide +kernel)⟩
theorem lw_p26 : lw_okq (⟨"HourStoreModel", "whyNot", "(I)J"⟩, 24) := ⟨⟨by decide +kernel, by decide +kernel⟩, List.mem_of_getElem? (i := 704) (by decide +kernel), List.mem_of_getElem? (i := 924) (by decide +kernel), List.mem_of_getElem? (i := 925) (by decide +kernel)⟩
theorem lw_p27 : lw_okq (⟨"HourStoreModel", "fault", "(IIII)I"⟩, 24) := ⟨⟨by decide +kernel, by decide +kernel⟩, List.mem_of_getElem? (i := 704) (by decide +kernel), List.mem_of_getElem? (i := 928) (by decide +kernel), List.mem_of_getElem? (i := 929) (by decide +kernel)⟩
theorem lw_p28 : lw_okq (⟨"HourStoreModel", "room", "(I)I"⟩, 24) := ⟨⟨by decide +kernel, by decide +kernel⟩, List.mem_of_getElem? (i := 704) (by decide +kernel), List.mem_of_getElem? (i := 932) (by decide +kernel), List.mem_of_getElem? (i := 933) (by decide +kernel)⟩
theorem lw_p29 : lw_okq (⟨"HourStoreModel", "moneyIn", "(II)J"⟩, 24) := ⟨⟨by decide +kernel, by decide +kernel⟩, List.mem_of_getElem? (i := 704) (by decide +kernel), List.mem_of_getElem? (i := 941) (by decide +kernel), List.mem_of_getElem? (i := 942) (by decide +kernel)⟩
theorem lw_p30 : lw_okq (⟨"HourStoreModel", "moneyOf", "(III)J"⟩, 24) := ⟨⟨by decide +kernel, by decide +kernel⟩, List.mem_of_getElem? (i := 704) (by decide +kernel), List.mem_of_getElem? (i := 945) (by decide +kernel), List.mem_of_getElem? (i := 946) (by decide +kernel)⟩
theorem lw_p31 : lw_okq (⟨"HourStoreModel", "solve", "(II)V"⟩, 24) := ⟨⟨by decide +kernel, by decide +kernel⟩, List.mem_of_getElem? (i := 704) (by decide +kernel), List.mem_of_getElem? (i := 961) (by decide +kernel), List.mem_of_getElem? (i := 962) (by decide +kernel)⟩
def lw_privs_2 : List (MethodName × Nat) := [(⟨"HourStoreModel", "floorOf", "(I)I"⟩, 24), (⟨"HourStoreModel", "asked", "(I)J"⟩, 24), (⟨"HourStoreModel", "topOf", "(I)I"⟩, 24), (⟨"HourStoreModel", "isOld", "(I)Z"⟩, 24), (⟨"HourStoreModel", "in", "(I)I"⟩, 24), (⟨"HourStoreModel", "isQuick", "(I)Z"⟩, 24), (⟨"HourStoreModel", "out", "(I)I"⟩, 24), (⟨"HourStoreModel", "loss", "(I)I"⟩, 24), (⟨"HourStoreModel", "isStep", "(I)Z"⟩, 24), (⟨"HourStoreModel", "behindOf", "(II)I"⟩, 24), (⟨"HourStoreModel", "whyNot", "(I)J"⟩, 24), (⟨"HourStoreModel", "fault", "(IIII)I"⟩, 24), (⟨"HourStoreModel", "room", "(I)I"⟩, 24), (⟨"HourStoreModel", "moneyIn", "(II)J"⟩, 24), (⟨"HourStoreModel", "moneyOf", "(III)J"⟩, 24), (⟨"HourStoreModel", "solve", "(II)V"⟩, 24)]
theorem lw_r2 : ∀ q ∈ lw_privs_2, lw_okq q := List.forall_mem_cons.mpr ⟨lw_p16, List.forall_mem_cons.mpr ⟨lw_p17, List.forall_mem_cons.mpr ⟨lw_p18, List.forall_mem_cons.mpr ⟨lw_p19, List.forall_mem_cons.mpr ⟨lw_p20, List.forall_mem_cons.mpr ⟨lw_p21, List.forall_mem_cons.mpr ⟨lw_p22, List.forall_mem_cons.mpr ⟨lw_p23, List.forall_mem_cons.mpr ⟨lw_p24, List.forall_mem_cons.mpr ⟨lw_p25, List.forall_mem_cons.mpr ⟨lw_p26, List.forall_mem_cons.mpr ⟨lw_p27, List.forall_mem_cons.mpr ⟨lw_p28, List.forall_mem_cons.mpr ⟨lw_p29, List.forall_mem_cons.mpr ⟨lw_p30, List.forall_mem_cons.mpr ⟨lw_p31, fun _ h => absurd h List.not_mem_nil⟩⟩⟩⟩⟩⟩⟩⟩⟩⟩⟩⟩⟩⟩⟩⟩
theorem lw_p32 : lw_okq (⟨"HourStoreModel", "with", "(IIIII)J"⟩, 24) := ⟨⟨by decide +kernel, by decide +kernel⟩, List.mem_of_getElem? (i := 704) (by decide +kernel), List.mem_of_getElem? (i := 966) (by decide +kernel), List.mem_of_getElem? (i := 967) (by decide +kernel)⟩
theorem lw_p33 : lw_okq (⟨"HourStoreModel", "moneyTogether", "(IIII)J"⟩, 24) := ⟨⟨by decide +kernel, by decide +kernel⟩, List.mem_of_getElem? (i := 704) (by decide +kernel), List.mem_of_getElem? (i := 970) (by decide +kernel), List.mem_of_getElem? (i := 971) (by decide +kernel)⟩
theorem lw_p34 : lw_okq (⟨"HourStoreModel", "isTaken", "(II)Z"⟩, 24) := ⟨⟨by decide +kernel, by decide +kernel⟩, List.mem_of_getElem? (i := 704) (by decide +kernel), List.mem_of_getElem? (i := 1000) (by decide +kernel), List.mem_of_getElem? (i := 1001) (by decide +kernel)⟩
theorem lw_p35 : lw_okq (⟨"HourStoreModel", "wantedOf", "(II)I"⟩, 24) := ⟨⟨by decide +kernel, by decide +kernel⟩, List.mem_of_getElem? (i := 704) (by decide +kernel), List.mem_of_getElem? (i := 1008) (by decide +kernel), List.mem_of_getElem? (i := 1009) (by decide +kernel)⟩
theorem lw_p36 : lw_okq (⟨"HourStoreModel", "nearest", "(II)I"⟩, 24) := ⟨⟨by decide +kernel, by decide +kernel⟩, List.mem_of_getElem? (i := 704) (by decide +kernel), List.mem_of_getElem? (i := 1029) (by decide +kernel), List.mem_of_getElem? (i := 1030) (by decide +kernel)⟩
theorem lw_p37 : lw_okq (⟨"HourStoreModel", "ahead", "(I)J"⟩, 24) := ⟨⟨by decide +kernel, by decide +kernel⟩, List.mem_of_getElem? (i := 704) (by decide +kernel), List.mem_of_getElem? (i := 1052) (by decide +kernel), List.mem_of_getElem? (i := 1053) (by decide +kernel)⟩
def lw_privs_3 : List (MethodName × Nat) := [(⟨"HourStoreModel", "with", "(IIIII)J"⟩, 24), (⟨"HourStoreModel", "moneyTogether", "(IIII)J"⟩, 24), (⟨"HourStoreModel", "isTaken", "(II)Z"⟩, 24), (⟨"HourStoreModel", "wantedOf", "(II)I"⟩, 24), (⟨"HourStoreModel", "nearest", "(II)I"⟩, 24), (⟨"HourStoreModel", "ahead", "(I)J"⟩, 24)]
theorem lw_r3 : ∀ q ∈ lw_privs_3, lw_okq q := List.forall_mem_cons.mpr ⟨lw_p32, List.forall_mem_cons.mpr ⟨lw_p33, List.forall_mem_cons.mpr ⟨lw_p34, List.forall_mem_cons.mpr ⟨lw_p35, List.forall_mem_cons.mpr ⟨lw_p36, List.forall_mem_cons.mpr ⟨lw_p37, fun _ h => absurd h List.not_mem_nil⟩⟩⟩⟩⟩⟩
def lw_privs : List (MethodName × Nat) := lw_privs_1 ++ (lw_privs_2 ++ (lw_privs_3))
def lw_tbl : List Cond := k2_sels lw_privs ++ tables_1
theorem lw_privs_ok : ∀ q ∈ lw_privs, lw_okq q := by
  show ∀ q ∈ lw_privs_1 ++ (lw_privs_2 ++ (lw_privs_3)), lw_okq q
  exact List.forall_mem_append.mpr ⟨lw_r1, List.forall_mem_append.mpr ⟨lw_r2, lw_r3⟩⟩
end
section
def RX0 : String := "HourStore$Battery"
def TX0 : u_T := fun k => match k with
  | 0 => ("HourStore$Battery", "there", "Z", false)
  | 1 => ("HourStore$Battery", "kind", "I", false)
  | 2 => ("HourStore$Battery", "size", "I", false)
  | 3 => ("HourStore$Battery", "charge", "I", false)
  | 4 => ("HourStore$Battery", "lowest", "I", false)
  | 5 => ("HourStore$Battery", "highest", "I", false)
  | 6 => ("HourStore$Battery", "rateIn", "I", false)
  | 7 => ("HourStore$Battery", "rateOut", "I", false)
  | 8 => ("HourStore$Battery", "loss", "I", false)
  | 9 => ("HourStore$Battery", "wear", "I", false)
  | 10 => ("HourStore$Battery", "end", "I", false)
  | 11 => ("HourStore$Battery", "warranty", "I", false)
  | _ => ("HourStore$Battery", "plan", "[I", true)
def tyX0 : Nat → FieldType := fun k => match k with
  | 0 => .boolean
  | 1 => .int
  | 2 => .int
  | 3 => .int
  | 4 => .int
  | 5 => .int
  | 6 => .int
  | 7 => .int
  | 8 => .int
  | 9 => .int
  | 10 => .int
  | 11 => .int
  | _ => .array .int
theorem nmX0 : ∀ a, a < 13 → ∀ b, b < 13 → a ≠ b → (TX0 a).2.1 ≠ (TX0 b).2.1 := by decide +kernel
theorem tyX0_ok : ∀ k, k < 13 → parseFieldDescriptor (TX0 k).2.2.1 = some (tyX0 k) := by decide +kernel
abbrev cX0_init : ByteArray := prog_2_method_1_code
def yX0_init : MethodName := ⟨RX0, "<init>", "()V"⟩
abbrev cX0_renew : ByteArray := prog_2_method_2_code
def yX0_renew : MethodName := ⟨RX0, "renew", "(II)V"⟩
abbrev cX0_setRates : ByteArray := prog_2_method_3_code
def yX0_setRates : MethodName := ⟨RX0, "setRates", "(II)V"⟩
abbrev cX0_setLosses : ByteArray := prog_2_method_4_code
def yX0_setLosses : MethodName := ⟨RX0, "setLosses", "(II)V"⟩
abbrev cX0_clearPlan : ByteArray := prog_2_method_5_code
def yX0_clearPlan : MethodName := ⟨RX0, "clearPlan", "()V"⟩
abbrev cX0_isA : ByteArray := prog_2_method_6_code
def yX0_isA : MethodName := ⟨RX0, "isA", "(I)Z"⟩
abbrev cX0_fact : ByteArray := prog_2_method_7_code
def yX0_fact : MethodName := ⟨RX0, "fact", "(I)I"⟩
abbrev cX0_isInRates : ByteArray := prog_2_method_8_code
def yX0_isInRates : MethodName := ⟨RX0, "isInRates", "(II)Z"⟩
abbrev cX0_chargeBehind : ByteArray := prog_2_method_9_code
def yX0_chargeBehind : MethodName := ⟨RX0, "chargeBehind", "(I)I"⟩
abbrev cX0_possible : ByteArray := prog_2_method_10_code
def yX0_possible : MethodName := ⟨RX0, "possible", "(II)I"⟩
abbrev cX0_moneyOf : ByteArray := prog_2_method_11_code
def yX0_moneyOf : MethodName := ⟨RX0, "moneyOf", "(IJ)J"⟩
abbrev cX0_moneyTogether : ByteArray := prog_2_method_12_code
def yX0_moneyTogether : MethodName := ⟨RX0, "moneyTogether", "(IJI)J"⟩
abbrev cX0_planMoney : ByteArray := prog_2_method_13_code
def yX0_planMoney : MethodName := ⟨RX0, "planMoney", "(LHourStore$Prices;I)J"⟩
def RX1 : String := "HourStore$Bids"
def TX1 : u_T := fun k => match k with
  | 0 => ("HourStore$Bids", "size", "I", false)
  | 1 => ("HourStore$Bids", "first", "[I", true)
  | 2 => ("HourStore$Bids", "last", "[I", true)
  | 3 => ("HourStore$Bids", "amount", "[I", true)
  | _ => ("HourStore$Bids", "limit", "[I", true)
def tyX1 : Nat → FieldType := fun k => match k with
  | 0 => .int
  | 1 => .array .int
  | 2 => .array .int
  | 3 => .array .int
  | _ => .array .int
theorem nmX1 : ∀ a, a < 5 → ∀ b, b < 5 → a ≠ b → (TX1 a).2.1 ≠ (TX1 b).2.1 := by decide +kernel
theorem tyX1_ok : ∀ k, k < 5 → parseFieldDescriptor (TX1 k).2.2.1 = some (tyX1 k) := by decide +kernel
abbrev cX1_init : ByteArray := prog_3_method_1_code
def yX1_init : MethodName := ⟨RX1, "<init>", "()V"⟩
abbrev cX1_add : ByteArray := prog_3_method_2_code
def yX1_add : MethodName := ⟨RX1, "add", "(IIII)I"⟩
abbrev cX1_isTaken : ByteArray := prog_3_method_3_code
def yX1_isTaken : MethodName := ⟨RX1, "isTaken", "(ILHourStore$Prices;)Z"⟩
abbrev cX1_sumWanted : ByteArray := prog_3_method_4_code
def yX1_sumWanted : MethodName := ⟨RX1, "sumWanted", "(LHourStore$Prices;I)I"⟩
def RX2 : String := "HourStore$Book"
def TX2 : u_T := fun k => match k with
  | 0 => ("HourStore$Book", "rows", "I", false)
  | 1 => ("HourStore$Book", "store", "[I", true)
  | 2 => ("HourStore$Book", "world", "[I", true)
  | 3 => ("HourStore$Book", "step", "[I", true)
  | 4 => ("HourStore$Book", "number", "[I", true)
  | _ => ("HourStore$Book", "money", "[J", true)
def tyX2 : Nat → FieldType := fun k => match k with
  | 0 => .int
  | 1 => .array .int
  | 2 => .array .int
  | 3 => .array .int
  | 4 => .array .int
  | _ => .array .long
theorem nmX2 : ∀ a, a < 6 → ∀ b, b < 6 → a ≠ b → (TX2 a).2.1 ≠ (TX2 b).2.1 := by decide +kernel
theorem tyX2_ok : ∀ k, k < 6 → parseFieldDescriptor (TX2 k).2.2.1 = some (tyX2 k) := by decide +kernel
abbrev cX2_init : ByteArray := prog_4_method_1_code
def yX2_init : MethodName := ⟨RX2, "<init>", "()V"⟩
abbrev cX2_add : ByteArray := prog_4_method_2_code
def yX2_add : MethodName := ⟨RX2, "add", "(IIIIJ)V"⟩
abbrev cX2_fact : ByteArray := prog_4_method_3_code
def yX2_fact : MethodName := ⟨RX2, "fact", "(II)J"⟩
abbrev cX2_firstWrong : ByteArray := prog_4_method_4_code
def yX2_firstWrong : MethodName := ⟨RX2, "firstWrong", "(ILHourStore$Battery;[LHourStore$Prices;)J"⟩
abbrev cX2_firstBeyond : ByteArray := prog_4_method_5_code
def yX2_firstBeyond : MethodName := ⟨RX2, "firstBeyond", "(II)J"⟩
abbrev cX2_allMoney : ByteArray := prog_4_method_6_code
def yX2_allMoney : MethodName := ⟨RX2, "allMoney", "()J"⟩
def RX3 : String := "HourStore$Line"
def TX3 : u_T := fun k => match k with
  | 0 => ("HourStore$Line", "steps", "I", false)
  | 1 => ("HourStore$Line", "dark", "[Z", true)
  | _ => ("HourStore$Line", "kept", "[I", true)
def tyX3 : Nat → FieldType := fun k => match k with
  | 0 => .int
  | 1 => .array .boolean
  | _ => .array .int
theorem nmX3 : ∀ a, a < 3 → ∀ b, b < 3 → a ≠ b → (TX3 a).2.1 ≠ (TX3 b).2.1 := by decide +kernel
theorem tyX3_ok : ∀ k, k < 3 → parseFieldDescriptor (TX3 k).2.2.1 = some (tyX3 k) := by decide +kernel
abbrev cX3_init : ByteArray := prog_5_method_1_code
def yX3_init : MethodName := ⟨RX3, "<init>", "()V"⟩
abbrev cX3_keptBack : ByteArray := prog_5_method_2_code
def yX3_keptBack : MethodName := ⟨RX3, "keptBack", "(I)I"⟩
abbrev cX3_darkSteps : ByteArray := prog_5_method_3_code
def yX3_darkSteps : MethodName := ⟨RX3, "darkSteps", "()I"⟩
abbrev cX3_allowsMove : ByteArray := prog_5_method_4_code
def yX3_allowsMove : MethodName := ⟨RX3, "allowsMove", "(LHourStore$Battery;II)Z"⟩
abbrev cX3_firstFault : ByteArray := prog_5_method_5_code
def yX3_firstFault : MethodName := ⟨RX3, "firstFault", "(LHourStore$Battery;)J"⟩
abbrev cX3_faultAt : ByteArray := prog_5_method_6_code
def yX3_faultAt : MethodName := ⟨RX3, "faultAt", "(LHourStore$Battery;II)I"⟩
def RX4 : String := "HourStore$Meters"
def TX4 : u_T := fun k => match k with
  | _ => ("HourStore$Meters", "readings", "[I", true)
def tyX4 : Nat → FieldType := fun k => match k with
  | _ => .array .int
theorem nmX4 : ∀ a, a < 1 → ∀ b, b < 1 → a ≠ b → (TX4 a).2.1 ≠ (TX4 b).2.1 := by decide +kernel
theorem tyX4_ok : ∀ k, k < 1 → parseFieldDescriptor (TX4 k).2.2.1 = some (tyX4 k) := by decide +kernel
abbrev cX4_init : ByteArray := prog_6_method_1_code
def yX4_init : MethodName := ⟨RX4, "<init>", "()V"⟩
abbrev cX4_readingsThere : ByteArray := prog_6_method_2_code
def yX4_readingsThere : MethodName := ⟨RX4, "readingsThere", "()I"⟩
abbrev cX4_counting : ByteArray := prog_6_method_3_code
def yX4_counting : MethodName := ⟨RX4, "counting", "(I)I"⟩
abbrev cX4_nearestAhead : ByteArray := prog_6_method_4_code
def yX4_nearestAhead : MethodName := ⟨RX4, "nearestAhead", "(I)I"⟩
abbrev cX4_nearestBehind : ByteArray := prog_6_method_5_code
def yX4_nearestBehind : MethodName := ⟨RX4, "nearestBehind", "(I)I"⟩
def RX5 : String := "HourStore$Planner"
def TX5 : u_T := fun k => match k with
  | 0 => ("HourStore$Planner", "line", "LHourStore$Line;", true)
  | 1 => ("HourStore$Planner", "worlds", "[LHourStore$Prices;", true)
  | 2 => ("HourStore$Planner", "worth", "[J", true)
  | 3 => ("HourStore$Planner", "gain", "[J", true)
  | 4 => ("HourStore$Planner", "ways", "[J", true)
  | 5 => ("HourStore$Planner", "nextWays", "[J", true)
  | 6 => ("HourStore$Planner", "leastMove", "I", false)
  | 7 => ("HourStore$Planner", "mostMove", "I", false)
  | 8 => ("HourStore$Planner", "leastAfter", "I", false)
  | _ => ("HourStore$Planner", "mostAfter", "I", false)
def tyX5 : Nat → FieldType := fun k => match k with
  | 0 => .object "HourStore$Line"
  | 1 => .array (.object "HourStore$Prices")
  | 2 => .array .long
  | 3 => .array .long
  | 4 => .array .long
  | 5 => .array .long
  | 6 => .int
  | 7 => .int
  | 8 => .int
  | _ => .int
theorem nmX5 : ∀ a, a < 10 → ∀ b, b < 10 → a ≠ b → (TX5 a).2.1 ≠ (TX5 b).2.1 := by decide +kernel
theorem tyX5_ok : ∀ k, k < 10 → parseFieldDescriptor (TX5 k).2.2.1 = some (tyX5 k) := by decide +kernel
abbrev cX5_init : ByteArray := prog_7_method_1_code
def yX5_init : MethodName := ⟨RX5, "<init>", "(LHourStore$Line;[LHourStore$Prices;)V"⟩
abbrev cX5_worthOf : ByteArray := prog_7_method_2_code
def yX5_worthOf : MethodName := ⟨RX5, "worthOf", "(II)J"⟩
abbrev cX5_solve : ByteArray := prog_7_method_3_code
def yX5_solve : MethodName := ⟨RX5, "solve", "(LHourStore$Battery;II)V"⟩
abbrev cX5_writeFirstBest : ByteArray := prog_7_method_4_code
def yX5_writeFirstBest : MethodName := ⟨RX5, "writeFirstBest", "(LHourStore$Battery;I)V"⟩
abbrev cX5_waysOfBest : ByteArray := prog_7_method_5_code
def yX5_waysOfBest : MethodName := ⟨RX5, "waysOfBest", "(LHourStore$Battery;I)J"⟩
abbrev cX5_openStep : ByteArray := prog_7_method_6_code
def yX5_openStep : MethodName := ⟨RX5, "openStep", "(LHourStore$Battery;II)V"⟩
abbrev cX5_sumOfPrices : ByteArray := prog_7_method_7_code
def yX5_sumOfPrices : MethodName := ⟨RX5, "sumOfPrices", "(II)J"⟩
abbrev cX5_firstMove : ByteArray := prog_7_method_8_code
def yX5_firstMove : MethodName := ⟨RX5, "firstMove", "(I)I"⟩
abbrev cX5_lastMove : ByteArray := prog_7_method_9_code
def yX5_lastMove : MethodName := ⟨RX5, "lastMove", "(I)I"⟩
abbrev cX5_worthThrough : ByteArray := prog_7_method_10_code
def yX5_worthThrough : MethodName := ⟨RX5, "worthThrough", "(III)J"⟩
abbrev cX5_greatest : ByteArray := prog_7_method_11_code
def yX5_greatest : MethodName := ⟨RX5, "greatest", "(II)J"⟩
abbrev cX5_leastBest : ByteArray := prog_7_method_12_code
def yX5_leastBest : MethodName := ⟨RX5, "leastBest", "(II)I"⟩
abbrev cX5_spreadWays : ByteArray := prog_7_method_13_code
def yX5_spreadWays : MethodName := ⟨RX5, "spreadWays", "(II)V"⟩
def RX6 : String := "HourStore$Prices"
def TX6 : u_T := fun k => match k with
  | 0 => ("HourStore$Prices", "there", "Z", false)
  | 1 => ("HourStore$Prices", "width", "I", false)
  | 2 => ("HourStore$Prices", "places", "I", false)
  | _ => ("HourStore$Prices", "cells", "[I", true)
def tyX6 : Nat → FieldType := fun k => match k with
  | 0 => .boolean
  | 1 => .int
  | 2 => .int
  | _ => .array .int
theorem nmX6 : ∀ a, a < 4 → ∀ b, b < 4 → a ≠ b → (TX6 a).2.1 ≠ (TX6 b).2.1 := by decide +kernel
theorem tyX6_ok : ∀ k, k < 4 → parseFieldDescriptor (TX6 k).2.2.1 = some (tyX6 k) := by decide +kernel
abbrev cX6_init : ByteArray := prog_8_method_1_code
def yX6_init : MethodName := ⟨RX6, "<init>", "()V"⟩
abbrev cX6_renew : ByteArray := prog_8_method_2_code
def yX6_renew : MethodName := ⟨RX6, "renew", "(II)V"⟩
abbrev cX6_fits : ByteArray := prog_8_method_3_code
def yX6_fits : MethodName := ⟨RX6, "fits", "(I)Z"⟩
abbrev cX6_hasRun : ByteArray := prog_8_method_4_code
def yX6_hasRun : MethodName := ⟨RX6, "hasRun", "(II)Z"⟩
abbrev cX6_priceOf : ByteArray := prog_8_method_5_code
def yX6_priceOf : MethodName := ⟨RX6, "priceOf", "(I)I"⟩
def RX7 : String := "HourStore"
def TX7 : u_T := fun k => match k with
  | 0 => ("HourStore", "line", "LHourStore$Line;", true)
  | 1 => ("HourStore", "worlds", "[LHourStore$Prices;", true)
  | 2 => ("HourStore", "batteries", "[LHourStore$Battery;", true)
  | 3 => ("HourStore", "planner", "LHourStore$Planner;", true)
  | 4 => ("HourStore", "bids", "LHourStore$Bids;", true)
  | 5 => ("HourStore", "meters", "LHourStore$Meters;", true)
  | _ => ("HourStore", "book", "LHourStore$Book;", true)
def tyX7 : Nat → FieldType := fun k => match k with
  | 0 => .object "HourStore$Line"
  | 1 => .array (.object "HourStore$Prices")
  | 2 => .array (.object "HourStore$Battery")
  | 3 => .object "HourStore$Planner"
  | 4 => .object "HourStore$Bids"
  | 5 => .object "HourStore$Meters"
  | _ => .object "HourStore$Book"
theorem nmX7 : ∀ a, a < 7 → ∀ b, b < 7 → a ≠ b → (TX7 a).2.1 ≠ (TX7 b).2.1 := by decide +kernel
theorem tyX7_ok : ∀ k, k < 7 → parseFieldDescriptor (TX7 k).2.2.1 = some (tyX7 k) := by decide +kernel
abbrev cX7_init : ByteArray := prog_1_method_1_code
def yX7_init : MethodName := ⟨RX7, "<init>", "()V"⟩
abbrev cX7_time : ByteArray := prog_1_method_2_code
def yX7_time : MethodName := ⟨RX7, "time", "(I)J"⟩
abbrev cX7_dark : ByteArray := prog_1_method_3_code
def yX7_dark : MethodName := ⟨RX7, "dark", "(II)J"⟩
abbrev cX7_keep : ByteArray := prog_1_method_4_code
def yX7_keep : MethodName := ⟨RX7, "keep", "(II)J"⟩
abbrev cX7_world : ByteArray := prog_1_method_5_code
def yX7_world : MethodName := ⟨RX7, "world", "(III)J"⟩
abbrev cX7_lose : ByteArray := prog_1_method_6_code
def yX7_lose : MethodName := ⟨RX7, "lose", "(I)J"⟩
abbrev cX7_price : ByteArray := prog_1_method_7_code
def yX7_price : MethodName := ⟨RX7, "price", "(III)J"⟩
abbrev cX7_copy : ByteArray := prog_1_method_8_code
def yX7_copy : MethodName := ⟨RX7, "copy", "(IIIII)J"⟩
abbrev cX7_told : ByteArray := prog_1_method_9_code
def yX7_told : MethodName := ⟨RX7, "told", "(II)J"⟩
abbrev cX7_store : ByteArray := prog_1_method_10_code
def yX7_store : MethodName := ⟨RX7, "store", "(IIIII)J"⟩
abbrev cX7_charge : ByteArray := prog_1_method_11_code
def yX7_charge : MethodName := ⟨RX7, "charge", "(II)J"⟩
abbrev cX7_end : ByteArray := prog_1_method_12_code
def yX7_end : MethodName := ⟨RX7, "end", "(II)J"⟩
abbrev cX7_about : ByteArray := prog_1_method_13_code
def yX7_about : MethodName := ⟨RX7, "about", "(II)J"⟩
abbrev cX7_isOf : ByteArray := prog_1_method_14_code
def yX7_isOf : MethodName := ⟨RX7, "isOf", "(II)J"⟩
abbrev cX7_put : ByteArray := prog_1_method_15_code
def yX7_put : MethodName := ⟨RX7, "put", "(III)J"⟩
abbrev cX7_planned : ByteArray := prog_1_method_16_code
def yX7_planned : MethodName := ⟨RX7, "planned", "(II)J"⟩
abbrev cX7_behind : ByteArray := prog_1_method_17_code
def yX7_behind : MethodName := ⟨RX7, "behind", "(II)J"⟩
abbrev cX7_why : ByteArray := prog_1_method_18_code
def yX7_why : MethodName := ⟨RX7, "why", "(I)J"⟩
abbrev cX7_money : ByteArray := prog_1_method_19_code
def yX7_money : MethodName := ⟨RX7, "money", "(II)J"⟩
abbrev cX7_worst : ByteArray := prog_1_method_20_code
def yX7_worst : MethodName := ⟨RX7, "worst", "(II)J"⟩
abbrev cX7_best : ByteArray := prog_1_method_21_code
def yX7_best : MethodName := ⟨RX7, "best", "(II)J"⟩
abbrev cX7_many : ByteArray := prog_1_method_22_code
def yX7_many : MethodName := ⟨RX7, "many", "(II)J"⟩
abbrev cX7_value : ByteArray := prog_1_method_23_code
def yX7_value : MethodName := ⟨RX7, "value", "(IIII)J"⟩
abbrev cX7_bid : ByteArray := prog_1_method_24_code
def yX7_bid : MethodName := ⟨RX7, "bid", "(IIII)J"⟩
abbrev cX7_unbid : ByteArray := prog_1_method_25_code
def yX7_unbid : MethodName := ⟨RX7, "unbid", "()J"⟩
abbrev cX7_taken : ByteArray := prog_1_method_26_code
def yX7_taken : MethodName := ⟨RX7, "taken", "(II)J"⟩
abbrev cX7_wanted : ByteArray := prog_1_method_27_code
def yX7_wanted : MethodName := ⟨RX7, "wanted", "(II)J"⟩
abbrev cX7_fill : ByteArray := prog_1_method_28_code
def yX7_fill : MethodName := ⟨RX7, "fill", "(II)J"⟩
abbrev cX7_meter : ByteArray := prog_1_method_29_code
def yX7_meter : MethodName := ⟨RX7, "meter", "(II)J"⟩
abbrev cX7_counts : ByteArray := prog_1_method_30_code
def yX7_counts : MethodName := ⟨RX7, "counts", "(I)J"⟩
abbrev cX7_live : ByteArray := prog_1_method_31_code
def yX7_live : MethodName := ⟨RX7, "live", "(II)J"⟩
abbrev cX7_row : ByteArray := prog_1_method_32_code
def yX7_row : MethodName := ⟨RX7, "row", "(II)J"⟩
abbrev cX7_forge : ByteArray := prog_1_method_33_code
def yX7_forge : MethodName := ⟨RX7, "forge", "(III)J"⟩
abbrev cX7_check : ByteArray := prog_1_method_34_code
def yX7_check : MethodName := ⟨RX7, "check", "()J"⟩
abbrev cX7_shut : ByteArray := prog_1_method_35_code
def yX7_shut : MethodName := ⟨RX7, "shut", "()J"⟩
abbrev cX7_warrant : ByteArray := prog_1_method_36_code
def yX7_warrant : MethodName := ⟨RX7, "warrant", "(II)J"⟩
abbrev cX7_voided : ByteArray := prog_1_method_37_code
def yX7_voided : MethodName := ⟨RX7, "voided", "(I)J"⟩
abbrev cX7_count : ByteArray := prog_1_method_38_code
def yX7_count : MethodName := ⟨RX7, "count", "(I)J"⟩
abbrev cX7_refusal : ByteArray := prog_1_method_39_code
def yX7_refusal : MethodName := ⟨RX7, "refusal", "(IZ)J"⟩
abbrev cX7_isStepNow : ByteArray := prog_1_method_40_code
def yX7_isStepNow : MethodName := ⟨RX7, "isStepNow", "(I)Z"⟩
abbrev cX7_storesThere : ByteArray := prog_1_method_41_code
def yX7_storesThere : MethodName := ⟨RX7, "storesThere", "()I"⟩
abbrev cX7_worldsThere : ByteArray := prog_1_method_42_code
def yX7_worldsThere : MethodName := ⟨RX7, "worldsThere", "()I"⟩
abbrev cX7_within : ByteArray := prog_1_method_43_code
def yX7_within : MethodName := ⟨RX7, "within", "(III)Z"⟩
abbrev cX7_isAnyStep : ByteArray := prog_1_method_44_code
def yX7_isAnyStep : MethodName := ⟨RX7, "isAnyStep", "(I)Z"⟩
abbrev cX7_isWorld : ByteArray := prog_1_method_45_code
def yX7_isWorld : MethodName := ⟨RX7, "isWorld", "(I)Z"⟩
abbrev cX7_areWorlds : ByteArray := prog_1_method_46_code
def yX7_areWorlds : MethodName := ⟨RX7, "areWorlds", "(I)Z"⟩
abbrev cX7_hasWorld : ByteArray := prog_1_method_47_code
def yX7_hasWorld : MethodName := ⟨RX7, "hasWorld", "(II)Z"⟩
abbrev cX7_isBattery : ByteArray := prog_1_method_48_code
def yX7_isBattery : MethodName := ⟨RX7, "isBattery", "(I)Z"⟩
abbrev cX7_isKind : ByteArray := prog_1_method_49_code
def yX7_isKind : MethodName := ⟨RX7, "isKind", "(I)Z"⟩
abbrev cX7_areRates : ByteArray := prog_1_method_50_code
def yX7_areRates : MethodName := ⟨RX7, "areRates", "(I)Z"⟩
abbrev cX7_oneIf : ByteArray := prog_1_method_51_code
def yX7_oneIf : MethodName := ⟨RX7, "oneIf", "(Z)J"⟩
def RX8 : String := "HourStoreModel"
def TX8 : u_T := fun k => match k with
  | 0 => ("HourStoreModel", "many", "I", false)
  | 1 => ("HourStoreModel", "isDark", "[Z", true)
  | 2 => ("HourStoreModel", "kept", "[I", true)
  | 3 => ("HourStoreModel", "widths", "[I", true)
  | 4 => ("HourStoreModel", "places", "[I", true)
  | 5 => ("HourStoreModel", "prices", "[I", true)
  | 6 => ("HourStoreModel", "kinds", "[I", true)
  | 7 => ("HourStoreModel", "sizes", "[I", true)
  | 8 => ("HourStoreModel", "charges", "[I", true)
  | 9 => ("HourStoreModel", "ins", "[I", true)
  | 10 => ("HourStoreModel", "outs", "[I", true)
  | 11 => ("HourStoreModel", "losses", "[I", true)
  | 12 => ("HourStoreModel", "wears", "[I", true)
  | 13 => ("HourStoreModel", "ends", "[I", true)
  | 14 => ("HourStoreModel", "warranties", "[I", true)
  | 15 => ("HourStoreModel", "plans", "[I", true)
  | 16 => ("HourStoreModel", "bids", "[I", true)
  | 17 => ("HourStoreModel", "bidMany", "I", false)
  | 18 => ("HourStoreModel", "meters", "[I", true)
  | 19 => ("HourStoreModel", "book", "[J", true)
  | 20 => ("HourStoreModel", "rows", "I", false)
  | 21 => ("HourStoreModel", "aside", "[I", true)
  | 22 => ("HourStoreModel", "value", "[J", true)
  | _ => ("HourStoreModel", "ways", "[J", true)
def tyX8 : Nat → FieldType := fun k => match k with
  | 0 => .int
  | 1 => .array .boolean
  | 2 => .array .int
  | 3 => .array .int
  | 4 => .array .int
  | 5 => .array .int
  | 6 => .array .int
  | 7 => .array .int
  | 8 => .array .int
  | 9 => .array .int
  | 10 => .array .int
  | 11 => .array .int
  | 12 => .array .int
  | 13 => .array .int
  | 14 => .array .int
  | 15 => .array .int
  | 16 => .array .int
  | 17 => .int
  | 18 => .array .int
  | 19 => .array .long
  | 20 => .int
  | 21 => .array .int
  | 22 => .array .long
  | _ => .array .long
theorem nmX8 : ∀ a, a < 24 → ∀ b, b < 24 → a ≠ b → (TX8 a).2.1 ≠ (TX8 b).2.1 := by decide +kernel
theorem tyX8_ok : ∀ k, k < 24 → parseFieldDescriptor (TX8 k).2.2.1 = some (tyX8 k) := by decide +kernel
abbrev cX8_init : ByteArray := prog_10_method_1_code
def yX8_init : MethodName := ⟨RX8, "<init>", "()V"⟩
abbrev cX8_isIn : ByteArray := prog_10_method_2_code
def yX8_isIn : MethodName := ⟨RX8, "isIn", "(JJJ)Z"⟩
abbrev cX8_isWorld : ByteArray := prog_10_method_3_code
def yX8_isWorld : MethodName := ⟨RX8, "isWorld", "(I)Z"⟩
abbrev cX8_isStore : ByteArray := prog_10_method_4_code
def yX8_isStore : MethodName := ⟨RX8, "isStore", "(I)Z"⟩
abbrev cX8_isStep : ByteArray := prog_10_method_5_code
def yX8_isStep : MethodName := ⟨RX8, "isStep", "(I)Z"⟩
abbrev cX8_cut : ByteArray := prog_10_method_6_code
def yX8_cut : MethodName := ⟨RX8, "cut", "(II)I"⟩
abbrev cX8_room : ByteArray := prog_10_method_7_code
def yX8_room : MethodName := ⟨RX8, "room", "(I)I"⟩
abbrev cX8_time : ByteArray := prog_10_method_8_code
def yX8_time : MethodName := ⟨RX8, "time", "(I)J"⟩
abbrev cX8_dark : ByteArray := prog_10_method_9_code
def yX8_dark : MethodName := ⟨RX8, "dark", "(II)J"⟩
abbrev cX8_keep : ByteArray := prog_10_method_10_code
def yX8_keep : MethodName := ⟨RX8, "keep", "(II)J"⟩
abbrev cX8_world : ByteArray := prog_10_method_11_code
def yX8_world : MethodName := ⟨RX8, "world", "(III)J"⟩
abbrev cX8_lose : ByteArray := prog_10_method_12_code
def yX8_lose : MethodName := ⟨RX8, "lose", "(I)J"⟩
abbrev cX8_price : ByteArray := prog_10_method_13_code
def yX8_price : MethodName := ⟨RX8, "price", "(III)J"⟩
abbrev cX8_copy : ByteArray := prog_10_method_14_code
def yX8_copy : MethodName := ⟨RX8, "copy", "(IIIII)J"⟩
abbrev cX8_priceOf : ByteArray := prog_10_method_15_code
def yX8_priceOf : MethodName := ⟨RX8, "priceOf", "(II)I"⟩
abbrev cX8_told : ByteArray := prog_10_method_16_code
def yX8_told : MethodName := ⟨RX8, "told", "(II)J"⟩
abbrev cX8_store : ByteArray := prog_10_method_17_code
def yX8_store : MethodName := ⟨RX8, "store", "(IIIII)J"⟩
abbrev cX8_isQuick : ByteArray := prog_10_method_18_code
def yX8_isQuick : MethodName := ⟨RX8, "isQuick", "(I)Z"⟩
abbrev cX8_isOld : ByteArray := prog_10_method_19_code
def yX8_isOld : MethodName := ⟨RX8, "isOld", "(I)Z"⟩
abbrev cX8_in : ByteArray := prog_10_method_20_code
def yX8_in : MethodName := ⟨RX8, "in", "(I)I"⟩
abbrev cX8_out : ByteArray := prog_10_method_21_code
def yX8_out : MethodName := ⟨RX8, "out", "(I)I"⟩
abbrev cX8_loss : ByteArray := prog_10_method_22_code
def yX8_loss : MethodName := ⟨RX8, "loss", "(I)I"⟩
abbrev cX8_topOf : ByteArray := prog_10_method_23_code
def yX8_topOf : MethodName := ⟨RX8, "topOf", "(I)I"⟩
abbrev cX8_floorOf : ByteArray := prog_10_method_24_code
def yX8_floorOf : MethodName := ⟨RX8, "floorOf", "(I)I"⟩
abbrev cX8_asked : ByteArray := prog_10_method_25_code
def yX8_asked : MethodName := ⟨RX8, "asked", "(I)J"⟩
abbrev cX8_charge : ByteArray := prog_10_method_26_code
def yX8_charge : MethodName := ⟨RX8, "charge", "(II)J"⟩
abbrev cX8_end : ByteArray := prog_10_method_27_code
def yX8_end : MethodName := ⟨RX8, "end", "(II)J"⟩
abbrev cX8_about : ByteArray := prog_10_method_28_code
def yX8_about : MethodName := ⟨RX8, "about", "(II)J"⟩
abbrev cX8_isOf : ByteArray := prog_10_method_29_code
def yX8_isOf : MethodName := ⟨RX8, "isOf", "(II)J"⟩
abbrev cX8_put : ByteArray := prog_10_method_30_code
def yX8_put : MethodName := ⟨RX8, "put", "(III)J"⟩
abbrev cX8_planned : ByteArray := prog_10_method_31_code
def yX8_planned : MethodName := ⟨RX8, "planned", "(II)J"⟩
abbrev cX8_behindOf : ByteArray := prog_10_method_32_code
def yX8_behindOf : MethodName := ⟨RX8, "behindOf", "(II)I"⟩
abbrev cX8_behind : ByteArray := prog_10_method_33_code
def yX8_behind : MethodName := ⟨RX8, "behind", "(II)J"⟩
abbrev cX8_fault : ByteArray := prog_10_method_34_code
def yX8_fault : MethodName := ⟨RX8, "fault", "(IIII)I"⟩
abbrev cX8_whyNot : ByteArray := prog_10_method_35_code
def yX8_whyNot : MethodName := ⟨RX8, "whyNot", "(I)J"⟩
abbrev cX8_why : ByteArray := prog_10_method_36_code
def yX8_why : MethodName := ⟨RX8, "why", "(I)J"⟩
abbrev cX8_moneyOf : ByteArray := prog_10_method_37_code
def yX8_moneyOf : MethodName := ⟨RX8, "moneyOf", "(III)J"⟩
abbrev cX8_moneyIn : ByteArray := prog_10_method_38_code
def yX8_moneyIn : MethodName := ⟨RX8, "moneyIn", "(II)J"⟩
abbrev cX8_money : ByteArray := prog_10_method_39_code
def yX8_money : MethodName := ⟨RX8, "money", "(II)J"⟩
abbrev cX8_areWorlds : ByteArray := prog_10_method_40_code
def yX8_areWorlds : MethodName := ⟨RX8, "areWorlds", "(I)Z"⟩
abbrev cX8_worst : ByteArray := prog_10_method_41_code
def yX8_worst : MethodName := ⟨RX8, "worst", "(II)J"⟩
abbrev cX8_moneyTogether : ByteArray := prog_10_method_42_code
def yX8_moneyTogether : MethodName := ⟨RX8, "moneyTogether", "(IIII)J"⟩
abbrev cX8_with : ByteArray := prog_10_method_43_code
def yX8_with : MethodName := ⟨RX8, "with", "(IIIII)J"⟩
abbrev cX8_solve : ByteArray := prog_10_method_44_code
def yX8_solve : MethodName := ⟨RX8, "solve", "(II)V"⟩
abbrev cX8_best : ByteArray := prog_10_method_45_code
def yX8_best : MethodName := ⟨RX8, "best", "(II)J"⟩
abbrev cX8_many : ByteArray := prog_10_method_46_code
def yX8_many : MethodName := ⟨RX8, "many", "(II)J"⟩
abbrev cX8_value : ByteArray := prog_10_method_47_code
def yX8_value : MethodName := ⟨RX8, "value", "(IIII)J"⟩
abbrev cX8_bid : ByteArray := prog_10_method_48_code
def yX8_bid : MethodName := ⟨RX8, "bid", "(IIII)J"⟩
abbrev cX8_unbid : ByteArray := prog_10_method_49_code
def yX8_unbid : MethodName := ⟨RX8, "unbid", "()J"⟩
abbrev cX8_isTaken : ByteArray := prog_10_method_50_code
def yX8_isTaken : MethodName := ⟨RX8, "isTaken", "(II)Z"⟩
abbrev cX8_taken : ByteArray := prog_10_method_51_code
def yX8_taken : MethodName := ⟨RX8, "taken", "(II)J"⟩
abbrev cX8_wantedOf : ByteArray := prog_10_method_52_code
def yX8_wantedOf : MethodName := ⟨RX8, "wantedOf", "(II)I"⟩
abbrev cX8_wanted : ByteArray := prog_10_method_53_code
def yX8_wanted : MethodName := ⟨RX8, "wanted", "(II)J"⟩
abbrev cX8_between : ByteArray := prog_10_method_54_code
def yX8_between : MethodName := ⟨RX8, "between", "(III)I"⟩
abbrev cX8_fill : ByteArray := prog_10_method_55_code
def yX8_fill : MethodName := ⟨RX8, "fill", "(II)J"⟩
abbrev cX8_meter : ByteArray := prog_10_method_56_code
def yX8_meter : MethodName := ⟨RX8, "meter", "(II)J"⟩
abbrev cX8_nearest : ByteArray := prog_10_method_57_code
def yX8_nearest : MethodName := ⟨RX8, "nearest", "(II)I"⟩
abbrev cX8_counts : ByteArray := prog_10_method_58_code
def yX8_counts : MethodName := ⟨RX8, "counts", "(I)J"⟩
abbrev cX8_live : ByteArray := prog_10_method_59_code
def yX8_live : MethodName := ⟨RX8, "live", "(II)J"⟩
abbrev cX8_row : ByteArray := prog_10_method_60_code
def yX8_row : MethodName := ⟨RX8, "row", "(II)J"⟩
abbrev cX8_forge : ByteArray := prog_10_method_61_code
def yX8_forge : MethodName := ⟨RX8, "forge", "(III)J"⟩
abbrev cX8_ahead : ByteArray := prog_10_method_62_code
def yX8_ahead : MethodName := ⟨RX8, "ahead", "(I)J"⟩
abbrev cX8_check : ByteArray := prog_10_method_63_code
def yX8_check : MethodName := ⟨RX8, "check", "()J"⟩
abbrev cX8_shut : ByteArray := prog_10_method_64_code
def yX8_shut : MethodName := ⟨RX8, "shut", "()J"⟩
abbrev cX8_warrant : ByteArray := prog_10_method_65_code
def yX8_warrant : MethodName := ⟨RX8, "warrant", "(II)J"⟩
abbrev cX8_voided : ByteArray := prog_10_method_66_code
def yX8_voided : MethodName := ⟨RX8, "voided", "(I)J"⟩
abbrev cX8_count : ByteArray := prog_10_method_67_code
def yX8_count : MethodName := ⟨RX8, "count", "(I)J"⟩
def RJ6 : String := "java/lang/Integer"
def TJ6 : u_T := fun k => match k with
  | _ => ("", "", "", false)
def tyJ6 : Nat → FieldType := fun k => match k with
  | _ => .int
theorem nmJ6 : ∀ a, a < 0 → ∀ b, b < 0 → a ≠ b → (TJ6 a).2.1 ≠ (TJ6 b).2.1 := by decide +kernel
theorem tyJ6_ok : ∀ k, k < 0 → parseFieldDescriptor (TJ6 k).2.2.1 = some (tyJ6 k) := by decide +kernel
abbrev cJ6_bitCount_0f7a4 : ByteArray := prog_11_method_49_code
def yJ6_bitCount_0f7a4 : MethodName := ⟨RJ6, "bitCount", "(I)I"⟩
def RJ9 : String := "java/lang/Math"
def TJ9 : u_T := fun k => match k with
  | _ => ("", "", "", false)
def tyJ9 : Nat → FieldType := fun k => match k with
  | _ => .int
theorem nmJ9 : ∀ a, a < 0 → ∀ b, b < 0 → a ≠ b → (TJ9 a).2.1 ≠ (TJ9 b).2.1 := by decide +kernel
theorem tyJ9_ok : ∀ k, k < 0 → parseFieldDescriptor (TJ9 k).2.2.1 = some (tyJ9 k) := by decide +kernel
abbrev cJ9_floorDiv_7cf53 : ByteArray := prog_12_method_47_code
def yJ9_floorDiv_7cf53 : MethodName := ⟨RJ9, "floorDiv", "(II)I"⟩
abbrev cJ9_abs_0f7a4 : ByteArray := prog_12_method_59_code
def yJ9_abs_0f7a4 : MethodName := ⟨RJ9, "abs", "(I)I"⟩
abbrev cJ9_max_7cf53 : ByteArray := prog_12_method_65_code
def yJ9_max_7cf53 : MethodName := ⟨RJ9, "max", "(II)I"⟩
abbrev cJ9_min_7cf53 : ByteArray := prog_12_method_69_code
def yJ9_min_7cf53 : MethodName := ⟨RJ9, "min", "(II)I"⟩
abbrev cJ9_min_f86c9 : ByteArray := prog_12_method_70_code
def yJ9_min_f86c9 : MethodName := ⟨RJ9, "min", "(JJ)J"⟩
def RJ10 : String := "java/lang/System"
def TJ10 : u_T := fun k => match k with
  | _ => ("", "", "", false)
def tyJ10 : Nat → FieldType := fun k => match k with
  | _ => .int
theorem nmJ10 : ∀ a, a < 0 → ∀ b, b < 0 → a ≠ b → (TJ10 a).2.1 ≠ (TJ10 b).2.1 := by decide +kernel
theorem tyJ10_ok : ∀ k, k < 0 → parseFieldDescriptor (TJ10 k).2.2.1 = some (tyJ10 k) := by decide +kernel
def RJ7 : String := "java/util/Arrays"
def TJ7 : u_T := fun k => match k with
  | _ => ("", "", "", false)
def tyJ7 : Nat → FieldType := fun k => match k with
  | _ => .int
theorem nmJ7 : ∀ a, a < 0 → ∀ b, b < 0 → a ≠ b → (TJ7 a).2.1 ≠ (TJ7 b).2.1 := by decide +kernel
theorem tyJ7_ok : ∀ k, k < 0 → parseFieldDescriptor (TJ7 k).2.2.1 = some (tyJ7 k) := by decide +kernel
abbrev cJ7_fill_d0a16 : ByteArray := prog_14_method_101_code
def yJ7_fill_d0a16 : MethodName := ⟨RJ7, "fill", "([JJ)V"⟩
abbrev cJ7_fill_53178 : ByteArray := prog_14_method_103_code
def yJ7_fill_53178 : MethodName := ⟨RJ7, "fill", "([II)V"⟩
def RL : String := "HourStoreLaw"
abbrev cL_law : ByteArray := code
def yL_law : MethodName := ⟨RL, "law", "([I)Z"⟩
abbrev vwCl : List vw_C := [(RX0, TX0, 13), (RX1, TX1, 5), (RX2, TX2, 6), (RX3, TX3, 3), (RX4, TX4, 1), (RX5, TX5, 10), (RX6, TX6, 4), (RX7, TX7, 7), (RX8, TX8, 24)]
end
section
/-! the tables' words that stay with the machine, as one list: every method's contract is over its own code word and these -/
def Wds : List Cond := lw_tbl.filter goodWord
theorem Wds_tbl {w : Cond} (h : w ∈ Wds) : w ∈ lw_tbl := (List.mem_filter.mp h).1
theorem Wds_good {w : Cond} (h : w ∈ Wds) : (w.onTables && w.keeps) = true ∨ ∃ ty, w = .arrayClass ty := good_of_word (List.mem_filter.mp h).2
theorem wdt0 {w : Cond} (k : Nat) (h : (k2_sels lw_privs)[k]? = some w) (g : goodWord w = true) : w ∈ Wds := List.mem_filter.mpr ⟨List.mem_append_left _ (List.mem_of_getElem? h), g⟩
theorem wdt1 {w : Cond} (k : Nat) (h : tables_1_1[k]? = some w) (g : goodWord w = true) : w ∈ Wds := List.mem_filter.mpr ⟨List.mem_append_right _ (List.mem_append_left _ (List.mem_of_getElem? h)), g⟩
theorem wdt2 {w : Cond} (k : Nat) (h : tables_1_2[k]? = some w) (g : goodWord w = true) : w ∈ Wds := List.mem_filter.mpr ⟨List.mem_append_right _ (List.mem_append_right _ (List.mem_append_left _ (List.mem_of_getElem? h))), g⟩
theorem wdt3 {w : Cond} (k : Nat) (h : tables_1_3[k]? = some w) (g : goodWord w = true) : w ∈ Wds := List.mem_filter.mpr ⟨List.mem_append_right _ (List.mem_append_right _ (List.mem_append_right _ (List.mem_append_left _ (List.mem_of_getElem? h)))), g⟩
theorem wdt4 {w : Cond} (k : Nat) (h : tables_1_4[k]? = some w) (g : goodWord w = true) : w ∈ Wds := List.mem_filter.mpr ⟨List.mem_append_right _ (List.mem_append_right _ (List.mem_append_right _ (List.mem_append_right _ (List.mem_append_left _ (List.mem_of_getElem? h))))), g⟩
theorem wdt5 {w : Cond} (k : Nat) (h : tables_1_5[k]? = some w) (g : goodWord w = true) : w ∈ Wds := List.mem_filter.mpr ⟨List.mem_append_right _ (List.mem_append_right _ (List.mem_append_right _ (List.mem_append_right _ (List.mem_append_right _ (List.mem_of_getElem? h))))), g⟩
theorem wd1_0 : (Cond.initialized RL) ∈ Wds := wdt1 0 (by decide +kernel) rfl
theorem wd1_1 : (Cond.initialized RX7) ∈ Wds := wdt1 1 (by decide +kernel) rfl
theorem wd1_2 : (Cond.initialized RX3) ∈ Wds := wdt1 2 (by decide +kernel) rfl
theorem wd1_3 : (Cond.initialized RX6) ∈ Wds := wdt1 3 (by decide +kernel) rfl
theorem wd1_4 : (Cond.initialized RX0) ∈ Wds := wdt1 4 (by decide +kernel) rfl
theorem wd1_5 : (Cond.initialized RX5) ∈ Wds := wdt1 5 (by decide +kernel) rfl
theorem wd1_6 : (Cond.initialized RX1) ∈ Wds := wdt1 6 (by decide +kernel) rfl
theorem wd1_7 : (Cond.initialized RX4) ∈ Wds := wdt1 7 (by decide +kernel) rfl
theorem wd1_8 : (Cond.initialized RJ7) ∈ Wds := wdt1 8 (by decide +kernel) rfl
theorem wd1_9 : (Cond.initialized RX2) ∈ Wds := wdt1 9 (by decide +kernel) rfl
theorem wd1_10 : (Cond.initialized RX8) ∈ Wds := wdt1 10 (by decide +kernel) rfl
theorem wd1_11 : (Cond.initialized RJ10) ∈ Wds := wdt1 11 (by decide +kernel) rfl
theorem wd1_12 : (Cond.initialized RJ9) ∈ Wds := wdt1 12 (by decide +kernel) rfl
theorem wd1_13 : (Cond.initialized RJ6) ∈ Wds := wdt1 13 (by decide +kernel) rfl
theorem wd1_14 : (Cond.classLink RL (7 : Nat) RX7) ∈ Wds := wdt1 14 (by decide +kernel) rfl
theorem wd1_15 : (Cond.instantiable RX7 (7 : Nat)) ∈ Wds := wdt1 15 (by decide +kernel) rfl
theorem wd1_16 : (Cond.methodLink RL (9 : Nat) yX7_init) ∈ Wds := wdt1 16 (by decide +kernel) rfl
theorem wd1_17 : (Cond.instanceMethod yX7_init) ∈ Wds := wdt1 17 (by decide +kernel) rfl
theorem wd1_18 : (Cond.code yX7_init cX7_init (2 : Nat) (Option.none : Option FieldType)) ∈ Wds := wdt1 18 (by decide +kernel) rfl
theorem wd1_19 : (Cond.methodLink RX7 (3 : Nat) (⟨"java/lang/Object", "<init>", "()V"⟩ : MethodName)) ∈ Wds := wdt1 19 (by decide +kernel) rfl
theorem wd1_20 : (Cond.instanceMethod (⟨"java/lang/Object", "<init>", "()V"⟩ : MethodName)) ∈ Wds := wdt1 20 (by decide +kernel) rfl
theorem wd1_21 : (Cond.code (⟨"java/lang/Object", "<init>", "()V"⟩ : MethodName) object_method_1_code (1 : Nat) (Option.none : Option FieldType)) ∈ Wds := wdt1 21 (by decide +kernel) rfl
theorem wd1_22 : (Cond.classLink RX7 (9 : Nat) RX3) ∈ Wds := wdt1 22 (by decide +kernel) rfl
theorem wd1_23 : (Cond.instantiable RX3 (3 : Nat)) ∈ Wds := wdt1 23 (by decide +kernel) rfl
theorem wd1_25 : (Cond.instanceMethod yX3_init) ∈ Wds := wdt1 25 (by decide +kernel) rfl
theorem wd1_26 : (Cond.code yX3_init cX3_init (1 : Nat) (Option.none : Option FieldType)) ∈ Wds := wdt1 26 (by decide +kernel) rfl
theorem wd1_27 : (Cond.methodLink RX3 (3 : Nat) (⟨"java/lang/Object", "<init>", "()V"⟩ : MethodName)) ∈ Wds := wdt1 27 (by decide +kernel) rfl
theorem wd1_28 : (Cond.fieldLink RX3 (9 : Nat) RX3 "steps" "I") ∈ Wds := wdt1 28 (by decide +kernel) rfl
theorem wd1_29 : (Cond.fieldLink RX7 (70 : Nat) RX3 "steps" "I") ∈ Wds := wdt1 29 (by decide +kernel) rfl
theorem wd1_30 : (Cond.fieldLink RX5 (32 : Nat) RX3 "steps" "I") ∈ Wds := wdt1 30 (by decide +kernel) rfl
theorem wd1_31 : (Cond.fieldLink RX3 (15 : Nat) RX3 "dark" "[Z") ∈ Wds := wdt1 31 (by decide +kernel) rfl
theorem wd1_32 : (Cond.fieldLink RX7 (80 : Nat) RX3 "dark" "[Z") ∈ Wds := wdt1 32 (by decide +kernel) rfl
theorem wd1_33 : (Cond.fieldLink RX5 (95 : Nat) RX3 "dark" "[Z") ∈ Wds := wdt1 33 (by decide +kernel) rfl
theorem wd1_34 : (Cond.fieldLink RX3 (19 : Nat) RX3 "kept" "[I") ∈ Wds := wdt1 34 (by decide +kernel) rfl
theorem wd1_35 : (Cond.fieldLink RX7 (88 : Nat) RX3 "kept" "[I") ∈ Wds := wdt1 35 (by decide +kernel) rfl
theorem wd1_36 : (Cond.lays "HourStore$Line" "HourStore$Line" "steps" "I") ∈ Wds := wdt1 36 (by decide +kernel) rfl
theorem wd1_38 : (Cond.laysFinal "HourStore$Line" "HourStore$Line" "dark" "[Z") ∈ Wds := wdt1 38 (by decide +kernel) rfl
theorem wd1_40 : (Cond.laysFinal "HourStore$Line" "HourStore$Line" "kept" "[I") ∈ Wds := wdt1 40 (by decide +kernel) rfl
theorem wd1_43 : (Cond.arrayClass FieldType.boolean) ∈ Wds := wdt1 43 (by decide +kernel) rfl
theorem wd1_44 : (Cond.arrayClass FieldType.int) ∈ Wds := wdt1 44 (by decide +kernel) rfl
theorem wd1_45 : (Cond.classLink RX7 (16 : Nat) RX6) ∈ Wds := wdt1 45 (by decide +kernel) rfl
theorem wd1_47 : (Cond.instantiable RX6 (4 : Nat)) ∈ Wds := wdt1 47 (by decide +kernel) rfl
theorem wd1_49 : (Cond.instanceMethod yX6_init) ∈ Wds := wdt1 49 (by decide +kernel) rfl
theorem wd1_50 : (Cond.code yX6_init cX6_init (1 : Nat) (Option.none : Option FieldType)) ∈ Wds := wdt1 50 (by decide +kernel) rfl
theorem wd1_51 : (Cond.methodLink RX6 (3 : Nat) (⟨"java/lang/Object", "<init>", "()V"⟩ : MethodName)) ∈ Wds := wdt1 51 (by decide +kernel) rfl
theorem wd1_52 : (Cond.fieldLink RX6 (15 : Nat) RX6 "there" "Z") ∈ Wds := wdt1 52 (by decide +kernel) rfl
theorem wd1_53 : (Cond.fieldLink RX7 (104 : Nat) RX6 "there" "Z") ∈ Wds := wdt1 53 (by decide +kernel) rfl
theorem wd1_54 : (Cond.fieldLink RX6 (19 : Nat) RX6 "width" "I") ∈ Wds := wdt1 54 (by decide +kernel) rfl
theorem wd1_55 : (Cond.fieldLink RX7 (121 : Nat) RX6 "width" "I") ∈ Wds := wdt1 55 (by decide +kernel) rfl
theorem wd1_56 : (Cond.fieldLink RX6 (23 : Nat) RX6 "places" "I") ∈ Wds := wdt1 56 (by decide +kernel) rfl
theorem wd1_57 : (Cond.fieldLink RX7 (110 : Nat) RX6 "places" "I") ∈ Wds := wdt1 57 (by decide +kernel) rfl
theorem wd1_58 : (Cond.fieldLink RX6 (9 : Nat) RX6 "cells" "[I") ∈ Wds := wdt1 58 (by decide +kernel) rfl
theorem wd1_59 : (Cond.fieldLink RX7 (118 : Nat) RX6 "cells" "[I") ∈ Wds := wdt1 59 (by decide +kernel) rfl
theorem wd1_60 : (Cond.lays "HourStore$Prices" "HourStore$Prices" "there" "Z") ∈ Wds := wdt1 60 (by decide +kernel) rfl
theorem wd1_62 : (Cond.lays "HourStore$Prices" "HourStore$Prices" "width" "I") ∈ Wds := wdt1 62 (by decide +kernel) rfl
theorem wd1_64 : (Cond.lays "HourStore$Prices" "HourStore$Prices" "places" "I") ∈ Wds := wdt1 64 (by decide +kernel) rfl
theorem wd1_66 : (Cond.laysFinal "HourStore$Prices" "HourStore$Prices" "cells" "[I") ∈ Wds := wdt1 66 (by decide +kernel) rfl
theorem wd1_69 : (Cond.classLink RX7 (23 : Nat) RX0) ∈ Wds := wdt1 69 (by decide +kernel) rfl
theorem wd1_71 : (Cond.instantiable RX0 (13 : Nat)) ∈ Wds := wdt1 71 (by decide +kernel) rfl
theorem wd1_73 : (Cond.instanceMethod yX0_init) ∈ Wds := wdt1 73 (by decide +kernel) rfl
theorem wd1_74 : (Cond.code yX0_init cX0_init (1 : Nat) (Option.none : Option FieldType)) ∈ Wds := wdt1 74 (by decide +kernel) rfl
theorem wd1_75 : (Cond.methodLink RX0 (3 : Nat) (⟨"java/lang/Object", "<init>", "()V"⟩ : MethodName)) ∈ Wds := wdt1 75 (by decide +kernel) rfl
theorem wd1_76 : (Cond.fieldLink RX0 (15 : Nat) RX0 "there" "Z") ∈ Wds := wdt1 76 (by decide +kernel) rfl
theorem wd1_77 : (Cond.fieldLink RX7 (276 : Nat) RX0 "there" "Z") ∈ Wds := wdt1 77 (by decide +kernel) rfl
theorem wd1_78 : (Cond.fieldLink RX0 (19 : Nat) RX0 "kind" "I") ∈ Wds := wdt1 78 (by decide +kernel) rfl
theorem wd1_79 : (Cond.fieldLink RX0 (23 : Nat) RX0 "size" "I") ∈ Wds := wdt1 79 (by decide +kernel) rfl
theorem wd1_80 : (Cond.fieldLink RX5 (49 : Nat) RX0 "size" "I") ∈ Wds := wdt1 80 (by decide +kernel) rfl
theorem wd1_81 : (Cond.fieldLink RX2 (49 : Nat) RX0 "size" "I") ∈ Wds := wdt1 81 (by decide +kernel) rfl
theorem wd1_82 : (Cond.fieldLink RX7 (229 : Nat) RX0 "size" "I") ∈ Wds := wdt1 82 (by decide +kernel) rfl
theorem wd1_83 : (Cond.fieldLink RX0 (36 : Nat) RX0 "charge" "I") ∈ Wds := wdt1 83 (by decide +kernel) rfl
theorem wd1_84 : (Cond.fieldLink RX5 (56 : Nat) RX0 "charge" "I") ∈ Wds := wdt1 84 (by decide +kernel) rfl
theorem wd1_85 : (Cond.fieldLink RX2 (34 : Nat) RX0 "charge" "I") ∈ Wds := wdt1 85 (by decide +kernel) rfl
theorem wd1_86 : (Cond.fieldLink RX3 (33 : Nat) RX0 "charge" "I") ∈ Wds := wdt1 86 (by decide +kernel) rfl
theorem wd1_87 : (Cond.fieldLink RX7 (166 : Nat) RX0 "charge" "I") ∈ Wds := wdt1 87 (by decide +kernel) rfl
theorem wd1_88 : (Cond.fieldLink RX0 (30 : Nat) RX0 "lowest" "I") ∈ Wds := wdt1 88 (by decide +kernel) rfl
theorem wd1_89 : (Cond.fieldLink RX3 (49 : Nat) RX0 "lowest" "I") ∈ Wds := wdt1 89 (by decide +kernel) rfl
theorem wd1_90 : (Cond.fieldLink RX5 (116 : Nat) RX0 "lowest" "I") ∈ Wds := wdt1 90 (by decide +kernel) rfl
theorem wd1_91 : (Cond.fieldLink RX7 (160 : Nat) RX0 "lowest" "I") ∈ Wds := wdt1 91 (by decide +kernel) rfl
theorem wd1_92 : (Cond.fieldLink RX0 (33 : Nat) RX0 "highest" "I") ∈ Wds := wdt1 92 (by decide +kernel) rfl
theorem wd1_93 : (Cond.fieldLink RX3 (52 : Nat) RX0 "highest" "I") ∈ Wds := wdt1 93 (by decide +kernel) rfl
theorem wd1_94 : (Cond.fieldLink RX5 (122 : Nat) RX0 "highest" "I") ∈ Wds := wdt1 94 (by decide +kernel) rfl
theorem wd1_95 : (Cond.fieldLink RX7 (163 : Nat) RX0 "highest" "I") ∈ Wds := wdt1 95 (by decide +kernel) rfl
theorem wd1_96 : (Cond.fieldLink RX0 (49 : Nat) RX0 "rateIn" "I") ∈ Wds := wdt1 96 (by decide +kernel) rfl
theorem wd1_97 : (Cond.fieldLink RX5 (107 : Nat) RX0 "rateIn" "I") ∈ Wds := wdt1 97 (by decide +kernel) rfl
theorem wd1_98 : (Cond.fieldLink RX0 (52 : Nat) RX0 "rateOut" "I") ∈ Wds := wdt1 98 (by decide +kernel) rfl
theorem wd1_99 : (Cond.fieldLink RX5 (99 : Nat) RX0 "rateOut" "I") ∈ Wds := wdt1 99 (by decide +kernel) rfl
theorem wd1_100 : (Cond.fieldLink RX0 (55 : Nat) RX0 "loss" "I") ∈ Wds := wdt1 100 (by decide +kernel) rfl
theorem wd1_101 : (Cond.fieldLink RX0 (58 : Nat) RX0 "wear" "I") ∈ Wds := wdt1 101 (by decide +kernel) rfl
theorem wd1_102 : (Cond.fieldLink RX0 (39 : Nat) RX0 "end" "I") ∈ Wds := wdt1 102 (by decide +kernel) rfl
theorem wd1_103 : (Cond.fieldLink RX5 (38 : Nat) RX0 "end" "I") ∈ Wds := wdt1 103 (by decide +kernel) rfl
theorem wd1_104 : (Cond.fieldLink RX3 (55 : Nat) RX0 "end" "I") ∈ Wds := wdt1 104 (by decide +kernel) rfl
theorem wd1_105 : (Cond.fieldLink RX7 (169 : Nat) RX0 "end" "I") ∈ Wds := wdt1 105 (by decide +kernel) rfl
theorem wd1_106 : (Cond.fieldLink RX0 (43 : Nat) RX0 "warranty" "I") ∈ Wds := wdt1 106 (by decide +kernel) rfl
theorem wd1_107 : (Cond.fieldLink RX7 (282 : Nat) RX0 "warranty" "I") ∈ Wds := wdt1 107 (by decide +kernel) rfl
theorem wd1_108 : (Cond.fieldLink RX0 (9 : Nat) RX0 "plan" "[I") ∈ Wds := wdt1 108 (by decide +kernel) rfl
theorem wd1_109 : (Cond.fieldLink RX5 (63 : Nat) RX0 "plan" "[I") ∈ Wds := wdt1 109 (by decide +kernel) rfl
theorem wd1_110 : (Cond.fieldLink RX3 (36 : Nat) RX0 "plan" "[I") ∈ Wds := wdt1 110 (by decide +kernel) rfl
theorem wd1_111 : (Cond.fieldLink RX7 (181 : Nat) RX0 "plan" "[I") ∈ Wds := wdt1 111 (by decide +kernel) rfl
theorem wd1_112 : (Cond.lays "HourStore$Battery" "HourStore$Battery" "there" "Z") ∈ Wds := wdt1 112 (by decide +kernel) rfl
theorem wd1_114 : (Cond.lays "HourStore$Battery" "HourStore$Battery" "kind" "I") ∈ Wds := wdt1 114 (by decide +kernel) rfl
theorem wd1_116 : (Cond.lays "HourStore$Battery" "HourStore$Battery" "size" "I") ∈ Wds := wdt1 116 (by decide +kernel) rfl
theorem wd1_118 : (Cond.lays "HourStore$Battery" "HourStore$Battery" "charge" "I") ∈ Wds := wdt1 118 (by decide +kernel) rfl
theorem wd1_120 : (Cond.lays "HourStore$Battery" "HourStore$Battery" "lowest" "I") ∈ Wds := wdt1 120 (by decide +kernel) rfl
theorem wd1_122 : (Cond.lays "HourStore$Battery" "HourStore$Battery" "highest" "I") ∈ Wds := wdt1 122 (by decide +kernel) rfl
theorem wd1_124 : (Cond.lays "HourStore$Battery" "HourStore$Battery" "rateIn" "I") ∈ Wds := wdt1 124 (by decide +kernel) rfl
theorem wd1_126 : (Cond.lays "HourStore$Battery" "HourStore$Battery" "rateOut" "I") ∈ Wds := wdt1 126 (by decide +kernel) rfl
theorem wd1_128 : (Cond.lays "HourStore$Battery" "HourStore$Battery" "loss" "I") ∈ Wds := wdt1 128 (by decide +kernel) rfl
theorem wd1_130 : (Cond.lays "HourStore$Battery" "HourStore$Battery" "wear" "I") ∈ Wds := wdt1 130 (by decide +kernel) rfl
theorem wd1_132 : (Cond.lays "HourStore$Battery" "HourStore$Battery" "end" "I") ∈ Wds := wdt1 132 (by decide +kernel) rfl
theorem wd1_134 : (Cond.lays "HourStore$Battery" "HourStore$Battery" "warranty" "I") ∈ Wds := wdt1 134 (by decide +kernel) rfl
theorem wd1_136 : (Cond.laysFinal "HourStore$Battery" "HourStore$Battery" "plan" "[I") ∈ Wds := wdt1 136 (by decide +kernel) rfl
theorem wd1_139 : (Cond.classLink RX7 (30 : Nat) RX5) ∈ Wds := wdt1 139 (by decide +kernel) rfl
theorem wd1_140 : (Cond.instantiable RX5 (10 : Nat)) ∈ Wds := wdt1 140 (by decide +kernel) rfl
theorem wd1_141 : (Cond.methodLink RX7 (32 : Nat) yX5_init) ∈ Wds := wdt1 141 (by decide +kernel) rfl
theorem wd1_142 : (Cond.instanceMethod yX5_init) ∈ Wds := wdt1 142 (by decide +kernel) rfl
theorem wd1_143 : (Cond.code yX5_init cX5_init (3 : Nat) (Option.none : Option FieldType)) ∈ Wds := wdt1 143 (by decide +kernel) rfl
theorem wd1_144 : (Cond.methodLink RX5 (3 : Nat) (⟨"java/lang/Object", "<init>", "()V"⟩ : MethodName)) ∈ Wds := wdt1 144 (by decide +kernel) rfl
theorem wd1_145 : (Cond.fieldLink RX5 (24 : Nat) RX5 "line" "LHourStore$Line;") ∈ Wds := wdt1 145 (by decide +kernel) rfl
theorem wd1_146 : (Cond.fieldLink RX5 (28 : Nat) RX5 "worlds" "[LHourStore$Prices;") ∈ Wds := wdt1 146 (by decide +kernel) rfl
theorem wd1_147 : (Cond.fieldLink RX5 (9 : Nat) RX5 "worth" "[J") ∈ Wds := wdt1 147 (by decide +kernel) rfl
theorem wd1_148 : (Cond.fieldLink RX5 (15 : Nat) RX5 "gain" "[J") ∈ Wds := wdt1 148 (by decide +kernel) rfl
theorem wd1_149 : (Cond.fieldLink RX5 (18 : Nat) RX5 "ways" "[J") ∈ Wds := wdt1 149 (by decide +kernel) rfl
theorem wd1_150 : (Cond.fieldLink RX5 (21 : Nat) RX5 "nextWays" "[J") ∈ Wds := wdt1 150 (by decide +kernel) rfl
theorem wd1_151 : (Cond.fieldLink RX5 (104 : Nat) RX5 "leastMove" "I") ∈ Wds := wdt1 151 (by decide +kernel) rfl
theorem wd1_152 : (Cond.fieldLink RX5 (113 : Nat) RX5 "mostMove" "I") ∈ Wds := wdt1 152 (by decide +kernel) rfl
theorem wd1_153 : (Cond.fieldLink RX5 (119 : Nat) RX5 "leastAfter" "I") ∈ Wds := wdt1 153 (by decide +kernel) rfl
theorem wd1_154 : (Cond.fieldLink RX5 (125 : Nat) RX5 "mostAfter" "I") ∈ Wds := wdt1 154 (by decide +kernel) rfl
theorem wd1_155 : (Cond.laysFinal "HourStore$Planner" "HourStore$Planner" "line" "LHourStore$Line;") ∈ Wds := wdt1 155 (by decide +kernel) rfl
theorem wd1_157 : (Cond.laysFinal "HourStore$Planner" "HourStore$Planner" "worlds" "[LHourStore$Prices;") ∈ Wds := wdt1 157 (by decide +kernel) rfl
theorem wd1_159 : (Cond.laysFinal "HourStore$Planner" "HourStore$Planner" "worth" "[J") ∈ Wds := wdt1 159 (by decide +kernel) rfl
theorem wd1_161 : (Cond.laysFinal "HourStore$Planner" "HourStore$Planner" "gain" "[J") ∈ Wds := wdt1 161 (by decide +kernel) rfl
theorem wd1_163 : (Cond.laysFinal "HourStore$Planner" "HourStore$Planner" "ways" "[J") ∈ Wds := wdt1 163 (by decide +kernel) rfl
theorem wd1_165 : (Cond.laysFinal "HourStore$Planner" "HourStore$Planner" "nextWays" "[J") ∈ Wds := wdt1 165 (by decide +kernel) rfl
theorem wd1_167 : (Cond.lays "HourStore$Planner" "HourStore$Planner" "leastMove" "I") ∈ Wds := wdt1 167 (by decide +kernel) rfl
theorem wd1_169 : (Cond.lays "HourStore$Planner" "HourStore$Planner" "mostMove" "I") ∈ Wds := wdt1 169 (by decide +kernel) rfl
theorem wd1_171 : (Cond.lays "HourStore$Planner" "HourStore$Planner" "leastAfter" "I") ∈ Wds := wdt1 171 (by decide +kernel) rfl
theorem wd1_173 : (Cond.lays "HourStore$Planner" "HourStore$Planner" "mostAfter" "I") ∈ Wds := wdt1 173 (by decide +kernel) rfl
theorem wd1_176 : (Cond.arrayClass FieldType.long) ∈ Wds := wdt1 176 (by decide +kernel) rfl
theorem wd1_177 : (Cond.classLink RX7 (39 : Nat) RX1) ∈ Wds := wdt1 177 (by decide +kernel) rfl
theorem wd1_178 : (Cond.instantiable RX1 (5 : Nat)) ∈ Wds := wdt1 178 (by decide +kernel) rfl
theorem wd1_180 : (Cond.instanceMethod yX1_init) ∈ Wds := wdt1 180 (by decide +kernel) rfl
theorem wd1_181 : (Cond.code yX1_init cX1_init (1 : Nat) (Option.none : Option FieldType)) ∈ Wds := wdt1 181 (by decide +kernel) rfl
theorem wd1_182 : (Cond.methodLink RX1 (3 : Nat) (⟨"java/lang/Object", "<init>", "()V"⟩ : MethodName)) ∈ Wds := wdt1 182 (by decide +kernel) rfl
theorem wd1_183 : (Cond.fieldLink RX1 (24 : Nat) RX1 "size" "I") ∈ Wds := wdt1 183 (by decide +kernel) rfl
theorem wd1_184 : (Cond.fieldLink RX7 (66 : Nat) RX1 "size" "I") ∈ Wds := wdt1 184 (by decide +kernel) rfl
theorem wd1_185 : (Cond.fieldLink RX1 (9 : Nat) RX1 "first" "[I") ∈ Wds := wdt1 185 (by decide +kernel) rfl
theorem wd1_186 : (Cond.fieldLink RX1 (15 : Nat) RX1 "last" "[I") ∈ Wds := wdt1 186 (by decide +kernel) rfl
theorem wd1_187 : (Cond.fieldLink RX1 (18 : Nat) RX1 "amount" "[I") ∈ Wds := wdt1 187 (by decide +kernel) rfl
theorem wd1_188 : (Cond.fieldLink RX1 (21 : Nat) RX1 "limit" "[I") ∈ Wds := wdt1 188 (by decide +kernel) rfl
theorem wd1_189 : (Cond.lays "HourStore$Bids" "HourStore$Bids" "size" "I") ∈ Wds := wdt1 189 (by decide +kernel) rfl
theorem wd1_191 : (Cond.laysFinal "HourStore$Bids" "HourStore$Bids" "first" "[I") ∈ Wds := wdt1 191 (by decide +kernel) rfl
theorem wd1_193 : (Cond.laysFinal "HourStore$Bids" "HourStore$Bids" "last" "[I") ∈ Wds := wdt1 193 (by decide +kernel) rfl
theorem wd1_195 : (Cond.laysFinal "HourStore$Bids" "HourStore$Bids" "amount" "[I") ∈ Wds := wdt1 195 (by decide +kernel) rfl
theorem wd1_197 : (Cond.laysFinal "HourStore$Bids" "HourStore$Bids" "limit" "[I") ∈ Wds := wdt1 197 (by decide +kernel) rfl
theorem wd1_200 : (Cond.classLink RX7 (46 : Nat) RX4) ∈ Wds := wdt1 200 (by decide +kernel) rfl
theorem wd1_201 : (Cond.instantiable RX4 (1 : Nat)) ∈ Wds := wdt1 201 (by decide +kernel) rfl
theorem wd1_202 : (Cond.methodLink RX7 (48 : Nat) yX4_init) ∈ Wds := wdt1 202 (by decide +kernel) rfl
theorem wd1_203 : (Cond.instanceMethod yX4_init) ∈ Wds := wdt1 203 (by decide +kernel) rfl
theorem wd1_204 : (Cond.code yX4_init cX4_init (1 : Nat) (Option.none : Option FieldType)) ∈ Wds := wdt1 204 (by decide +kernel) rfl
theorem wd1_205 : (Cond.methodLink RX4 (3 : Nat) (⟨"java/lang/Object", "<init>", "()V"⟩ : MethodName)) ∈ Wds := wdt1 205 (by decide +kernel) rfl
theorem wd1_206 : (Cond.methodLink RX4 (15 : Nat) yJ7_fill_53178) ∈ Wds := wdt1 206 (by decide +kernel) rfl
theorem wd1_207 : (Cond.static yJ7_fill_53178) ∈ Wds := wdt1 207 (by decide +kernel) rfl
theorem wd1_208 : (Cond.code yJ7_fill_53178 cJ7_fill_53178 (4 : Nat) (Option.none : Option FieldType)) ∈ Wds := wdt1 208 (by decide +kernel) rfl
theorem wd1_209 : (Cond.fieldLink RX4 (9 : Nat) RX4 "readings" "[I") ∈ Wds := wdt1 209 (by decide +kernel) rfl
theorem wd1_210 : (Cond.fieldLink RX7 (251 : Nat) RX4 "readings" "[I") ∈ Wds := wdt1 210 (by decide +kernel) rfl
theorem wd1_211 : (Cond.laysFinal "HourStore$Meters" "HourStore$Meters" "readings" "[I") ∈ Wds := wdt1 211 (by decide +kernel) rfl
theorem wd1_214 : (Cond.classLink RX7 (53 : Nat) RX2) ∈ Wds := wdt1 214 (by decide +kernel) rfl
theorem wd1_215 : (Cond.instantiable RX2 (6 : Nat)) ∈ Wds := wdt1 215 (by decide +kernel) rfl
theorem wd1_217 : (Cond.instanceMethod yX2_init) ∈ Wds := wdt1 217 (by decide +kernel) rfl
theorem wd1_218 : (Cond.code yX2_init cX2_init (1 : Nat) (Option.none : Option FieldType)) ∈ Wds := wdt1 218 (by decide +kernel) rfl
theorem wd1_219 : (Cond.methodLink RX2 (3 : Nat) (⟨"java/lang/Object", "<init>", "()V"⟩ : MethodName)) ∈ Wds := wdt1 219 (by decide +kernel) rfl
theorem wd1_220 : (Cond.fieldLink RX2 (28 : Nat) RX2 "rows" "I") ∈ Wds := wdt1 220 (by decide +kernel) rfl
theorem wd1_221 : (Cond.fieldLink RX7 (257 : Nat) RX2 "rows" "I") ∈ Wds := wdt1 221 (by decide +kernel) rfl
theorem wd1_222 : (Cond.fieldLink RX2 (9 : Nat) RX2 "store" "[I") ∈ Wds := wdt1 222 (by decide +kernel) rfl
theorem wd1_223 : (Cond.fieldLink RX2 (15 : Nat) RX2 "world" "[I") ∈ Wds := wdt1 223 (by decide +kernel) rfl
theorem wd1_224 : (Cond.fieldLink RX2 (18 : Nat) RX2 "step" "[I") ∈ Wds := wdt1 224 (by decide +kernel) rfl
theorem wd1_225 : (Cond.fieldLink RX2 (21 : Nat) RX2 "number" "[I") ∈ Wds := wdt1 225 (by decide +kernel) rfl
theorem wd1_226 : (Cond.fieldLink RX7 (269 : Nat) RX2 "number" "[I") ∈ Wds := wdt1 226 (by decide +kernel) rfl
theorem wd1_227 : (Cond.fieldLink RX2 (24 : Nat) RX2 "money" "[J") ∈ Wds := wdt1 227 (by decide +kernel) rfl
theorem wd1_228 : (Cond.fieldLink RX7 (272 : Nat) RX2 "money" "[J") ∈ Wds := wdt1 228 (by decide +kernel) rfl
theorem wd1_229 : (Cond.lays "HourStore$Book" "HourStore$Book" "rows" "I") ∈ Wds := wdt1 229 (by decide +kernel) rfl
theorem wd1_231 : (Cond.laysFinal "HourStore$Book" "HourStore$Book" "store" "[I") ∈ Wds := wdt1 231 (by decide +kernel) rfl
theorem wd1_233 : (Cond.laysFinal "HourStore$Book" "HourStore$Book" "world" "[I") ∈ Wds := wdt1 233 (by decide +kernel) rfl
theorem wd1_235 : (Cond.laysFinal "HourStore$Book" "HourStore$Book" "step" "[I") ∈ Wds := wdt1 235 (by decide +kernel) rfl
theorem wd1_237 : (Cond.laysFinal "HourStore$Book" "HourStore$Book" "number" "[I") ∈ Wds := wdt1 237 (by decide +kernel) rfl
theorem wd1_239 : (Cond.laysFinal "HourStore$Book" "HourStore$Book" "money" "[J") ∈ Wds := wdt1 239 (by decide +kernel) rfl
theorem wd2_2 : (Cond.fieldLink RX7 (12 : Nat) RX7 "line" "LHourStore$Line;") ∈ Wds := wdt2 2 (by decide +kernel) rfl
theorem wd2_3 : (Cond.fieldLink RX7 (18 : Nat) RX7 "worlds" "[LHourStore$Prices;") ∈ Wds := wdt2 3 (by decide +kernel) rfl
theorem wd2_4 : (Cond.fieldLink RX7 (25 : Nat) RX7 "batteries" "[LHourStore$Battery;") ∈ Wds := wdt2 4 (by decide +kernel) rfl
theorem wd2_5 : (Cond.fieldLink RX7 (35 : Nat) RX7 "planner" "LHourStore$Planner;") ∈ Wds := wdt2 5 (by decide +kernel) rfl
theorem wd2_6 : (Cond.fieldLink RX7 (42 : Nat) RX7 "bids" "LHourStore$Bids;") ∈ Wds := wdt2 6 (by decide +kernel) rfl
theorem wd2_7 : (Cond.fieldLink RX7 (49 : Nat) RX7 "meters" "LHourStore$Meters;") ∈ Wds := wdt2 7 (by decide +kernel) rfl
theorem wd2_8 : (Cond.fieldLink RX7 (56 : Nat) RX7 "book" "LHourStore$Book;") ∈ Wds := wdt2 8 (by decide +kernel) rfl
theorem wd2_9 : (Cond.laysFinal "HourStore" "HourStore" "line" "LHourStore$Line;") ∈ Wds := wdt2 9 (by decide +kernel) rfl
theorem wd2_11 : (Cond.laysFinal "HourStore" "HourStore" "worlds" "[LHourStore$Prices;") ∈ Wds := wdt2 11 (by decide +kernel) rfl
theorem wd2_13 : (Cond.laysFinal "HourStore" "HourStore" "batteries" "[LHourStore$Battery;") ∈ Wds := wdt2 13 (by decide +kernel) rfl
theorem wd2_15 : (Cond.laysFinal "HourStore" "HourStore" "planner" "LHourStore$Planner;") ∈ Wds := wdt2 15 (by decide +kernel) rfl
theorem wd2_17 : (Cond.laysFinal "HourStore" "HourStore" "bids" "LHourStore$Bids;") ∈ Wds := wdt2 17 (by decide +kernel) rfl
theorem wd2_19 : (Cond.laysFinal "HourStore" "HourStore" "meters" "LHourStore$Meters;") ∈ Wds := wdt2 19 (by decide +kernel) rfl
theorem wd2_21 : (Cond.laysFinal "HourStore" "HourStore" "book" "LHourStore$Book;") ∈ Wds := wdt2 21 (by decide +kernel) rfl
theorem wd2_24 : (Cond.methodLink RL (13 : Nat) yX7_time) ∈ Wds := wdt2 24 (by decide +kernel) rfl
theorem wd2_25 : (Cond.instanceMethod yX7_time) ∈ Wds := wdt2 25 (by decide +kernel) rfl
theorem wd2_26 : (Cond.selects RX7 yX7_time yX7_time) ∈ Wds := wdt2 26 (by decide +kernel) rfl
theorem wd2_27 : (Cond.code yX7_time cX7_time (4 : Nat) (Option.some FieldType.long)) ∈ Wds := wdt2 27 (by decide +kernel) rfl
theorem wd2_28 : (Cond.methodLink RX7 (60 : Nat) yX7_within) ∈ Wds := wdt2 28 (by decide +kernel) rfl
theorem wd2_29 : (Cond.static yX7_within) ∈ Wds := wdt2 29 (by decide +kernel) rfl
theorem wd2_30 : (Cond.code yX7_within cX7_within (3 : Nat) (Option.some FieldType.boolean)) ∈ Wds := wdt2 30 (by decide +kernel) rfl
theorem wd2_31 : (Cond.constantLong RX7 (64 : Nat) (-9000000000000000001 : Int64)) ∈ Wds := wdt2 31 (by decide +kernel) rfl
theorem wd2_32 : (Cond.methodLink RX7 (73 : Nat) yX0_clearPlan) ∈ Wds := wdt2 32 (by decide +kernel) rfl
theorem wd2_33 : (Cond.instanceMethod yX0_clearPlan) ∈ Wds := wdt2 33 (by decide +kernel) rfl
theorem wd2_34 : (Cond.selects RX0 yX0_clearPlan yX0_clearPlan) ∈ Wds := wdt2 34 (by decide +kernel) rfl
theorem wd2_35 : (Cond.code yX0_clearPlan cX0_clearPlan (1 : Nat) (Option.none : Option FieldType)) ∈ Wds := wdt2 35 (by decide +kernel) rfl
theorem wd2_36 : (Cond.methodLink RX0 (61 : Nat) yJ7_fill_53178) ∈ Wds := wdt2 36 (by decide +kernel) rfl
theorem wd2_37 : (Cond.methodLink RL (18 : Nat) yX7_dark) ∈ Wds := wdt2 37 (by decide +kernel) rfl
theorem wd2_38 : (Cond.instanceMethod yX7_dark) ∈ Wds := wdt2 38 (by decide +kernel) rfl
theorem wd2_39 : (Cond.selects RX7 yX7_dark yX7_dark) ∈ Wds := wdt2 39 (by decide +kernel) rfl
theorem wd2_40 : (Cond.code yX7_dark cX7_dark (4 : Nat) (Option.some FieldType.long)) ∈ Wds := wdt2 40 (by decide +kernel) rfl
theorem wd2_41 : (Cond.methodLink RX7 (76 : Nat) yX7_isAnyStep) ∈ Wds := wdt2 41 (by decide +kernel) rfl
theorem wd2_42 : (Cond.static yX7_isAnyStep) ∈ Wds := wdt2 42 (by decide +kernel) rfl
theorem wd2_43 : (Cond.code yX7_isAnyStep cX7_isAnyStep (1 : Nat) (Option.some FieldType.boolean)) ∈ Wds := wdt2 43 (by decide +kernel) rfl
theorem wd2_44 : (Cond.methodLink RX7 (84 : Nat) yX7_oneIf) ∈ Wds := wdt2 44 (by decide +kernel) rfl
theorem wd2_45 : (Cond.static yX7_oneIf) ∈ Wds := wdt2 45 (by decide +kernel) rfl
theorem wd2_46 : (Cond.code yX7_oneIf cX7_oneIf (1 : Nat) (Option.some FieldType.long)) ∈ Wds := wdt2 46 (by decide +kernel) rfl
theorem wd2_47 : (Cond.methodLink RL (23 : Nat) yX7_keep) ∈ Wds := wdt2 47 (by decide +kernel) rfl
theorem wd2_48 : (Cond.instanceMethod yX7_keep) ∈ Wds := wdt2 48 (by decide +kernel) rfl
theorem wd2_49 : (Cond.selects RX7 yX7_keep yX7_keep) ∈ Wds := wdt2 49 (by decide +kernel) rfl
theorem wd2_50 : (Cond.code yX7_keep cX7_keep (4 : Nat) (Option.some FieldType.long)) ∈ Wds := wdt2 50 (by decide +kernel) rfl
theorem wd2_51 : (Cond.methodLink RL (27 : Nat) yX7_world) ∈ Wds := wdt2 51 (by decide +kernel) rfl
theorem wd2_52 : (Cond.instanceMethod yX7_world) ∈ Wds := wdt2 52 (by decide +kernel) rfl
theorem wd2_53 : (Cond.selects RX7 yX7_world yX7_world) ∈ Wds := wdt2 53 (by decide +kernel) rfl
theorem wd2_54 : (Cond.code yX7_world cX7_world (4 : Nat) (Option.some FieldType.long)) ∈ Wds := wdt2 54 (by decide +kernel) rfl
theorem wd2_55 : (Cond.methodLink RX7 (92 : Nat) yX7_isWorld) ∈ Wds := wdt2 55 (by decide +kernel) rfl
theorem wd2_56 : (Cond.static yX7_isWorld) ∈ Wds := wdt2 56 (by decide +kernel) rfl
theorem wd2_57 : (Cond.code yX7_isWorld cX7_isWorld (1 : Nat) (Option.some FieldType.boolean)) ∈ Wds := wdt2 57 (by decide +kernel) rfl
theorem wd2_58 : (Cond.fieldLink RX7 (95 : Nat) RX7 "PRICE_LIMITS" "[I") ∈ Wds := wdt2 58 (by decide +kernel) rfl
theorem wd2_60 : (Cond.constantLong RX7 (98 : Nat) (-9000000000000000014 : Int64)) ∈ Wds := wdt2 60 (by decide +kernel) rfl
theorem wd2_61 : (Cond.methodLink RX7 (100 : Nat) yX6_renew) ∈ Wds := wdt2 61 (by decide +kernel) rfl
theorem wd2_62 : (Cond.instanceMethod yX6_renew) ∈ Wds := wdt2 62 (by decide +kernel) rfl
theorem wd2_63 : (Cond.selects RX6 yX6_renew yX6_renew) ∈ Wds := wdt2 63 (by decide +kernel) rfl
theorem wd2_64 : (Cond.code yX6_renew cX6_renew (3 : Nat) (Option.none : Option FieldType)) ∈ Wds := wdt2 64 (by decide +kernel) rfl
theorem wd2_65 : (Cond.methodLink RX6 (26 : Nat) yJ7_fill_53178) ∈ Wds := wdt2 65 (by decide +kernel) rfl
theorem wd2_66 : (Cond.methodLink RL (32 : Nat) yX7_lose) ∈ Wds := wdt2 66 (by decide +kernel) rfl
theorem wd2_67 : (Cond.instanceMethod yX7_lose) ∈ Wds := wdt2 67 (by decide +kernel) rfl
theorem wd2_68 : (Cond.selects RX7 yX7_lose yX7_lose) ∈ Wds := wdt2 68 (by decide +kernel) rfl
theorem wd2_69 : (Cond.code yX7_lose cX7_lose (3 : Nat) (Option.some FieldType.long)) ∈ Wds := wdt2 69 (by decide +kernel) rfl
theorem wd2_70 : (Cond.constantLong RX7 (108 : Nat) (-9000000000000000011 : Int64)) ∈ Wds := wdt2 70 (by decide +kernel) rfl
theorem wd2_71 : (Cond.methodLink RL (36 : Nat) yX7_price) ∈ Wds := wdt2 71 (by decide +kernel) rfl
theorem wd2_72 : (Cond.instanceMethod yX7_price) ∈ Wds := wdt2 72 (by decide +kernel) rfl
theorem wd2_73 : (Cond.selects RX7 yX7_price yX7_price) ∈ Wds := wdt2 73 (by decide +kernel) rfl
theorem wd2_74 : (Cond.code yX7_price cX7_price (6 : Nat) (Option.some FieldType.long)) ∈ Wds := wdt2 74 (by decide +kernel) rfl
theorem wd2_75 : (Cond.constantLong RX7 (113 : Nat) (-9000000000000000013 : Int64)) ∈ Wds := wdt2 75 (by decide +kernel) rfl
theorem wd2_76 : (Cond.methodLink RX7 (115 : Nat) yX6_fits) ∈ Wds := wdt2 76 (by decide +kernel) rfl
theorem wd2_77 : (Cond.instanceMethod yX6_fits) ∈ Wds := wdt2 77 (by decide +kernel) rfl
theorem wd2_78 : (Cond.selects RX6 yX6_fits yX6_fits) ∈ Wds := wdt2 78 (by decide +kernel) rfl
theorem wd2_79 : (Cond.code yX6_fits cX6_fits (2 : Nat) (Option.some FieldType.boolean)) ∈ Wds := wdt2 79 (by decide +kernel) rfl
theorem wd2_82 : (Cond.methodLink RL (40 : Nat) yX7_copy) ∈ Wds := wdt2 82 (by decide +kernel) rfl
theorem wd2_83 : (Cond.instanceMethod yX7_copy) ∈ Wds := wdt2 83 (by decide +kernel) rfl
theorem wd2_84 : (Cond.selects RX7 yX7_copy yX7_copy) ∈ Wds := wdt2 84 (by decide +kernel) rfl
theorem wd2_85 : (Cond.code yX7_copy cX7_copy (8 : Nat) (Option.some FieldType.long)) ∈ Wds := wdt2 85 (by decide +kernel) rfl
theorem wd2_86 : (Cond.constantLong RX7 (124 : Nat) (-9000000000000000002 : Int64)) ∈ Wds := wdt2 86 (by decide +kernel) rfl
theorem wd2_87 : (Cond.methodLink RX7 (126 : Nat) yX6_hasRun) ∈ Wds := wdt2 87 (by decide +kernel) rfl
theorem wd2_88 : (Cond.instanceMethod yX6_hasRun) ∈ Wds := wdt2 88 (by decide +kernel) rfl
theorem wd2_89 : (Cond.selects RX6 yX6_hasRun yX6_hasRun) ∈ Wds := wdt2 89 (by decide +kernel) rfl
theorem wd2_90 : (Cond.code yX6_hasRun cX6_hasRun (3 : Nat) (Option.some FieldType.boolean)) ∈ Wds := wdt2 90 (by decide +kernel) rfl
theorem wd2_91 : (Cond.methodLink RX7 (130 : Nat) (⟨RJ10, "arraycopy", "(Ljava/lang/Object;ILjava/lang/Object;II)V"⟩ : MethodName)) ∈ Wds := wdt2 91 (by decide +kernel) rfl
theorem wd2_92 : (Cond.static (⟨RJ10, "arraycopy", "(Ljava/lang/Object;ILjava/lang/Object;II)V"⟩ : MethodName)) ∈ Wds := wdt2 92 (by decide +kernel) rfl
theorem wd2_93 : (Cond.native (⟨RJ10, "arraycopy", "(Ljava/lang/Object;ILjava/lang/Object;II)V"⟩ : MethodName)) ∈ Wds := wdt2 93 (by decide +kernel) rfl
theorem wd2_94 : (Cond.methodLink RL (45 : Nat) yX7_told) ∈ Wds := wdt2 94 (by decide +kernel) rfl
theorem wd2_95 : (Cond.instanceMethod yX7_told) ∈ Wds := wdt2 95 (by decide +kernel) rfl
theorem wd2_96 : (Cond.selects RX7 yX7_told yX7_told) ∈ Wds := wdt2 96 (by decide +kernel) rfl
theorem wd2_97 : (Cond.code yX7_told cX7_told (3 : Nat) (Option.some FieldType.long)) ∈ Wds := wdt2 97 (by decide +kernel) rfl
theorem wd2_98 : (Cond.methodLink RX7 (136 : Nat) yX6_priceOf) ∈ Wds := wdt2 98 (by decide +kernel) rfl
theorem wd2_99 : (Cond.instanceMethod yX6_priceOf) ∈ Wds := wdt2 99 (by decide +kernel) rfl
theorem wd2_100 : (Cond.selects RX6 yX6_priceOf yX6_priceOf) ∈ Wds := wdt2 100 (by decide +kernel) rfl
theorem wd2_101 : (Cond.code yX6_priceOf cX6_priceOf (2 : Nat) (Option.some FieldType.int)) ∈ Wds := wdt2 101 (by decide +kernel) rfl
theorem wd2_102 : (Cond.methodLink RL (49 : Nat) yX7_store) ∈ Wds := wdt2 102 (by decide +kernel) rfl
theorem wd2_103 : (Cond.instanceMethod yX7_store) ∈ Wds := wdt2 103 (by decide +kernel) rfl
theorem wd2_104 : (Cond.selects RX7 yX7_store yX7_store) ∈ Wds := wdt2 104 (by decide +kernel) rfl
theorem wd2_105 : (Cond.code yX7_store cX7_store (7 : Nat) (Option.some FieldType.long)) ∈ Wds := wdt2 105 (by decide +kernel) rfl
theorem wd2_106 : (Cond.methodLink RX7 (140 : Nat) yX7_isBattery) ∈ Wds := wdt2 106 (by decide +kernel) rfl
theorem wd2_107 : (Cond.static yX7_isBattery) ∈ Wds := wdt2 107 (by decide +kernel) rfl
theorem wd2_108 : (Cond.code yX7_isBattery cX7_isBattery (1 : Nat) (Option.some FieldType.boolean)) ∈ Wds := wdt2 108 (by decide +kernel) rfl
theorem wd2_109 : (Cond.methodLink RX7 (143 : Nat) yX7_isKind) ∈ Wds := wdt2 109 (by decide +kernel) rfl
theorem wd2_110 : (Cond.static yX7_isKind) ∈ Wds := wdt2 110 (by decide +kernel) rfl
theorem wd2_111 : (Cond.code yX7_isKind cX7_isKind (1 : Nat) (Option.some FieldType.boolean)) ∈ Wds := wdt2 111 (by decide +kernel) rfl
theorem wd2_112 : (Cond.methodLink RX7 (146 : Nat) yX7_areRates) ∈ Wds := wdt2 112 (by decide +kernel) rfl
theorem wd2_113 : (Cond.static yX7_areRates) ∈ Wds := wdt2 113 (by decide +kernel) rfl
theorem wd2_114 : (Cond.code yX7_areRates cX7_areRates (1 : Nat) (Option.some FieldType.boolean)) ∈ Wds := wdt2 114 (by decide +kernel) rfl
theorem wd2_115 : (Cond.methodLink RX7 (149 : Nat) yX0_renew) ∈ Wds := wdt2 115 (by decide +kernel) rfl
theorem wd2_116 : (Cond.instanceMethod yX0_renew) ∈ Wds := wdt2 116 (by decide +kernel) rfl
theorem wd2_117 : (Cond.selects RX0 yX0_renew yX0_renew) ∈ Wds := wdt2 117 (by decide +kernel) rfl
theorem wd2_118 : (Cond.code yX0_renew cX0_renew (3 : Nat) (Option.none : Option FieldType)) ∈ Wds := wdt2 118 (by decide +kernel) rfl
theorem wd2_119 : (Cond.methodLink RX0 (26 : Nat) yX0_isA) ∈ Wds := wdt2 119 (by decide +kernel) rfl
theorem wd2_120 : (Cond.instanceMethod yX0_isA) ∈ Wds := wdt2 120 (by decide +kernel) rfl
theorem wd2_121 : (Cond.selects RX0 yX0_isA yX0_isA) ∈ Wds := wdt2 121 (by decide +kernel) rfl
theorem wd2_122 : (Cond.code yX0_isA cX0_isA (2 : Nat) (Option.some FieldType.boolean)) ∈ Wds := wdt2 122 (by decide +kernel) rfl
theorem wd2_123 : (Cond.constant RX0 (42 : Nat) (100000 : Int32)) ∈ Wds := wdt2 123 (by decide +kernel) rfl
theorem wd2_124 : (Cond.methodLink RX0 (46 : Nat) yX0_clearPlan) ∈ Wds := wdt2 124 (by decide +kernel) rfl
theorem wd2_125 : (Cond.methodLink RX7 (150 : Nat) yX0_setRates) ∈ Wds := wdt2 125 (by decide +kernel) rfl
theorem wd2_126 : (Cond.instanceMethod yX0_setRates) ∈ Wds := wdt2 126 (by decide +kernel) rfl
theorem wd2_127 : (Cond.selects RX0 yX0_setRates yX0_setRates) ∈ Wds := wdt2 127 (by decide +kernel) rfl
theorem wd2_128 : (Cond.code yX0_setRates cX0_setRates (4 : Nat) (Option.none : Option FieldType)) ∈ Wds := wdt2 128 (by decide +kernel) rfl
theorem wd2_129 : (Cond.methodLink RX7 (153 : Nat) yX0_setLosses) ∈ Wds := wdt2 129 (by decide +kernel) rfl
theorem wd2_130 : (Cond.instanceMethod yX0_setLosses) ∈ Wds := wdt2 130 (by decide +kernel) rfl
theorem wd2_131 : (Cond.selects RX0 yX0_setLosses yX0_setLosses) ∈ Wds := wdt2 131 (by decide +kernel) rfl
theorem wd2_132 : (Cond.code yX0_setLosses cX0_setLosses (3 : Nat) (Option.none : Option FieldType)) ∈ Wds := wdt2 132 (by decide +kernel) rfl
theorem wd2_133 : (Cond.methodLink RL (53 : Nat) yX7_charge) ∈ Wds := wdt2 133 (by decide +kernel) rfl
theorem wd2_134 : (Cond.instanceMethod yX7_charge) ∈ Wds := wdt2 134 (by decide +kernel) rfl
theorem wd2_135 : (Cond.selects RX7 yX7_charge yX7_charge) ∈ Wds := wdt2 135 (by decide +kernel) rfl
theorem wd2_136 : (Cond.code yX7_charge cX7_charge (7 : Nat) (Option.some FieldType.long)) ∈ Wds := wdt2 136 (by decide +kernel) rfl
theorem wd2_137 : (Cond.methodLink RX7 (156 : Nat) yX7_refusal) ∈ Wds := wdt2 137 (by decide +kernel) rfl
theorem wd2_139 : (Cond.instanceMethod yX7_refusal) ∈ Wds := wdt2 139 (by decide +kernel) rfl
theorem wd2_140 : (Cond.code yX7_refusal cX7_refusal (3 : Nat) (Option.some FieldType.long)) ∈ Wds := wdt2 140 (by decide +kernel) rfl
theorem wd2_141 : (Cond.methodLink RL (57 : Nat) yX7_end) ∈ Wds := wdt2 141 (by decide +kernel) rfl
theorem wd2_142 : (Cond.instanceMethod yX7_end) ∈ Wds := wdt2 142 (by decide +kernel) rfl
theorem wd2_143 : (Cond.selects RX7 yX7_end yX7_end) ∈ Wds := wdt2 143 (by decide +kernel) rfl
theorem wd2_144 : (Cond.code yX7_end cX7_end (6 : Nat) (Option.some FieldType.long)) ∈ Wds := wdt2 144 (by decide +kernel) rfl
theorem wd2_145 : (Cond.methodLink RL (61 : Nat) yX7_about) ∈ Wds := wdt2 145 (by decide +kernel) rfl
theorem wd2_146 : (Cond.instanceMethod yX7_about) ∈ Wds := wdt2 146 (by decide +kernel) rfl
theorem wd2_147 : (Cond.selects RX7 yX7_about yX7_about) ∈ Wds := wdt2 147 (by decide +kernel) rfl
theorem wd2_148 : (Cond.code yX7_about cX7_about (5 : Nat) (Option.some FieldType.long)) ∈ Wds := wdt2 148 (by decide +kernel) rfl
theorem wd2_149 : (Cond.methodLink RX7 (172 : Nat) yX0_fact) ∈ Wds := wdt2 149 (by decide +kernel) rfl
theorem wd2_150 : (Cond.instanceMethod yX0_fact) ∈ Wds := wdt2 150 (by decide +kernel) rfl
theorem wd2_151 : (Cond.selects RX0 yX0_fact yX0_fact) ∈ Wds := wdt2 151 (by decide +kernel) rfl
theorem wd2_152 : (Cond.code yX0_fact cX0_fact (2 : Nat) (Option.some FieldType.int)) ∈ Wds := wdt2 152 (by decide +kernel) rfl
theorem wd2_153 : (Cond.methodLink RL (65 : Nat) yX7_isOf) ∈ Wds := wdt2 153 (by decide +kernel) rfl
theorem wd2_154 : (Cond.instanceMethod yX7_isOf) ∈ Wds := wdt2 154 (by decide +kernel) rfl
theorem wd2_155 : (Cond.selects RX7 yX7_isOf yX7_isOf) ∈ Wds := wdt2 155 (by decide +kernel) rfl
theorem wd2_156 : (Cond.code yX7_isOf cX7_isOf (5 : Nat) (Option.some FieldType.long)) ∈ Wds := wdt2 156 (by decide +kernel) rfl
theorem wd2_157 : (Cond.methodLink RX7 (175 : Nat) yX0_isA) ∈ Wds := wdt2 157 (by decide +kernel) rfl
theorem wd2_158 : (Cond.methodLink RL (69 : Nat) yX7_put) ∈ Wds := wdt2 158 (by decide +kernel) rfl
theorem wd2_159 : (Cond.instanceMethod yX7_put) ∈ Wds := wdt2 159 (by decide +kernel) rfl
theorem wd2_160 : (Cond.selects RX7 yX7_put yX7_put) ∈ Wds := wdt2 160 (by decide +kernel) rfl
theorem wd2_161 : (Cond.code yX7_put cX7_put (7 : Nat) (Option.some FieldType.long)) ∈ Wds := wdt2 161 (by decide +kernel) rfl
theorem wd2_162 : (Cond.methodLink RX7 (178 : Nat) yX7_isStepNow) ∈ Wds := wdt2 162 (by decide +kernel) rfl
theorem wd2_164 : (Cond.instanceMethod yX7_isStepNow) ∈ Wds := wdt2 164 (by decide +kernel) rfl
theorem wd2_165 : (Cond.code yX7_isStepNow cX7_isStepNow (2 : Nat) (Option.some FieldType.boolean)) ∈ Wds := wdt2 165 (by decide +kernel) rfl
theorem wd2_166 : (Cond.methodLink RL (73 : Nat) yX7_planned) ∈ Wds := wdt2 166 (by decide +kernel) rfl
theorem wd2_167 : (Cond.instanceMethod yX7_planned) ∈ Wds := wdt2 167 (by decide +kernel) rfl
theorem wd2_168 : (Cond.selects RX7 yX7_planned yX7_planned) ∈ Wds := wdt2 168 (by decide +kernel) rfl
theorem wd2_169 : (Cond.code yX7_planned cX7_planned (5 : Nat) (Option.some FieldType.long)) ∈ Wds := wdt2 169 (by decide +kernel) rfl
theorem wd2_170 : (Cond.methodLink RL (77 : Nat) yX7_behind) ∈ Wds := wdt2 170 (by decide +kernel) rfl
theorem wd2_171 : (Cond.instanceMethod yX7_behind) ∈ Wds := wdt2 171 (by decide +kernel) rfl
theorem wd2_172 : (Cond.selects RX7 yX7_behind yX7_behind) ∈ Wds := wdt2 172 (by decide +kernel) rfl
theorem wd2_173 : (Cond.code yX7_behind cX7_behind (5 : Nat) (Option.some FieldType.long)) ∈ Wds := wdt2 173 (by decide +kernel) rfl
theorem wd2_174 : (Cond.methodLink RX7 (184 : Nat) yX0_chargeBehind) ∈ Wds := wdt2 174 (by decide +kernel) rfl
theorem wd2_175 : (Cond.instanceMethod yX0_chargeBehind) ∈ Wds := wdt2 175 (by decide +kernel) rfl
theorem wd2_176 : (Cond.selects RX0 yX0_chargeBehind yX0_chargeBehind) ∈ Wds := wdt2 176 (by decide +kernel) rfl
theorem wd2_177 : (Cond.code yX0_chargeBehind cX0_chargeBehind (4 : Nat) (Option.some FieldType.int)) ∈ Wds := wdt2 177 (by decide +kernel) rfl
theorem wd2_178 : (Cond.methodLink RL (81 : Nat) yX7_why) ∈ Wds := wdt2 178 (by decide +kernel) rfl
theorem wd2_179 : (Cond.instanceMethod yX7_why) ∈ Wds := wdt2 179 (by decide +kernel) rfl
theorem wd2_180 : (Cond.selects RX7 yX7_why yX7_why) ∈ Wds := wdt2 180 (by decide +kernel) rfl
theorem wd2_181 : (Cond.code yX7_why cX7_why (4 : Nat) (Option.some FieldType.long)) ∈ Wds := wdt2 181 (by decide +kernel) rfl
theorem wd2_182 : (Cond.methodLink RX7 (187 : Nat) yX3_firstFault) ∈ Wds := wdt2 182 (by decide +kernel) rfl
theorem wd2_183 : (Cond.instanceMethod yX3_firstFault) ∈ Wds := wdt2 183 (by decide +kernel) rfl
theorem wd2_184 : (Cond.selects RX3 yX3_firstFault yX3_firstFault) ∈ Wds := wdt2 184 (by decide +kernel) rfl
theorem wd2_185 : (Cond.code yX3_firstFault cX3_firstFault (5 : Nat) (Option.some FieldType.long)) ∈ Wds := wdt2 185 (by decide +kernel) rfl
theorem wd2_186 : (Cond.methodLink RX3 (39 : Nat) yX3_faultAt) ∈ Wds := wdt2 186 (by decide +kernel) rfl
theorem wd2_188 : (Cond.instanceMethod yX3_faultAt) ∈ Wds := wdt2 188 (by decide +kernel) rfl
theorem wd2_189 : (Cond.code yX3_faultAt cX3_faultAt (4 : Nat) (Option.some FieldType.int)) ∈ Wds := wdt2 189 (by decide +kernel) rfl
theorem wd2_190 : (Cond.methodLink RX3 (45 : Nat) yX3_allowsMove) ∈ Wds := wdt2 190 (by decide +kernel) rfl
theorem wd2_191 : (Cond.instanceMethod yX3_allowsMove) ∈ Wds := wdt2 191 (by decide +kernel) rfl
theorem wd2_192 : (Cond.selects RX3 yX3_allowsMove yX3_allowsMove) ∈ Wds := wdt2 192 (by decide +kernel) rfl
theorem wd2_193 : (Cond.code yX3_allowsMove cX3_allowsMove (4 : Nat) (Option.some FieldType.boolean)) ∈ Wds := wdt2 193 (by decide +kernel) rfl
theorem wd2_194 : (Cond.methodLink RX3 (23 : Nat) yX3_keptBack) ∈ Wds := wdt2 194 (by decide +kernel) rfl
theorem wd2_195 : (Cond.instanceMethod yX3_keptBack) ∈ Wds := wdt2 195 (by decide +kernel) rfl
theorem wd2_196 : (Cond.selects RX3 yX3_keptBack yX3_keptBack) ∈ Wds := wdt2 196 (by decide +kernel) rfl
theorem wd2_197 : (Cond.code yX3_keptBack cX3_keptBack (2 : Nat) (Option.some FieldType.int)) ∈ Wds := wdt2 197 (by decide +kernel) rfl
theorem wd2_198 : (Cond.methodLink RX3 (27 : Nat) yX0_isInRates) ∈ Wds := wdt2 198 (by decide +kernel) rfl
theorem wd2_199 : (Cond.instanceMethod yX0_isInRates) ∈ Wds := wdt2 199 (by decide +kernel) rfl
theorem wd2_200 : (Cond.selects RX0 yX0_isInRates yX0_isInRates) ∈ Wds := wdt2 200 (by decide +kernel) rfl
theorem wd2_201 : (Cond.code yX0_isInRates cX0_isInRates (3 : Nat) (Option.some FieldType.boolean)) ∈ Wds := wdt2 201 (by decide +kernel) rfl
theorem wd2_202 : (Cond.constantLong RX3 (43 : Nat) (-9000000000000000005 : Int64)) ∈ Wds := wdt2 202 (by decide +kernel) rfl
theorem wd2_203 : (Cond.methodLink RL (85 : Nat) yX7_money) ∈ Wds := wdt2 203 (by decide +kernel) rfl
theorem wd2_204 : (Cond.instanceMethod yX7_money) ∈ Wds := wdt2 204 (by decide +kernel) rfl
theorem wd2_205 : (Cond.selects RX7 yX7_money yX7_money) ∈ Wds := wdt2 205 (by decide +kernel) rfl
theorem wd2_206 : (Cond.code yX7_money cX7_money (5 : Nat) (Option.some FieldType.long)) ∈ Wds := wdt2 206 (by decide +kernel) rfl
theorem wd2_207 : (Cond.methodLink RX7 (191 : Nat) yX0_planMoney) ∈ Wds := wdt2 207 (by decide +kernel) rfl
theorem wd2_208 : (Cond.instanceMethod yX0_planMoney) ∈ Wds := wdt2 208 (by decide +kernel) rfl
theorem wd2_209 : (Cond.selects RX0 yX0_planMoney yX0_planMoney) ∈ Wds := wdt2 209 (by decide +kernel) rfl
theorem wd2_210 : (Cond.code yX0_planMoney cX0_planMoney (6 : Nat) (Option.some FieldType.long)) ∈ Wds := wdt2 210 (by decide +kernel) rfl
theorem wd2_211 : (Cond.methodLink RX0 (80 : Nat) yX6_priceOf) ∈ Wds := wdt2 211 (by decide +kernel) rfl
theorem wd2_212 : (Cond.methodLink RX0 (86 : Nat) yX0_moneyOf) ∈ Wds := wdt2 212 (by decide +kernel) rfl
theorem wd2_213 : (Cond.instanceMethod yX0_moneyOf) ∈ Wds := wdt2 213 (by decide +kernel) rfl
theorem wd2_214 : (Cond.selects RX0 yX0_moneyOf yX0_moneyOf) ∈ Wds := wdt2 214 (by decide +kernel) rfl
theorem wd2_215 : (Cond.code yX0_moneyOf cX0_moneyOf (4 : Nat) (Option.some FieldType.long)) ∈ Wds := wdt2 215 (by decide +kernel) rfl
theorem wd2_216 : (Cond.methodLink RX0 (76 : Nat) yX0_moneyTogether) ∈ Wds := wdt2 216 (by decide +kernel) rfl
theorem wd2_217 : (Cond.instanceMethod yX0_moneyTogether) ∈ Wds := wdt2 217 (by decide +kernel) rfl
theorem wd2_218 : (Cond.selects RX0 yX0_moneyTogether yX0_moneyTogether) ∈ Wds := wdt2 218 (by decide +kernel) rfl
theorem wd2_219 : (Cond.code yX0_moneyTogether cX0_moneyTogether (5 : Nat) (Option.some FieldType.long)) ∈ Wds := wdt2 219 (by decide +kernel) rfl
theorem wd2_220 : (Cond.methodLink RL (89 : Nat) yX7_worst) ∈ Wds := wdt2 220 (by decide +kernel) rfl
theorem wd2_221 : (Cond.instanceMethod yX7_worst) ∈ Wds := wdt2 221 (by decide +kernel) rfl
theorem wd2_222 : (Cond.selects RX7 yX7_worst yX7_worst) ∈ Wds := wdt2 222 (by decide +kernel) rfl
theorem wd2_223 : (Cond.code yX7_worst cX7_worst (8 : Nat) (Option.some FieldType.long)) ∈ Wds := wdt2 223 (by decide +kernel) rfl
theorem wd2_224 : (Cond.methodLink RX7 (195 : Nat) yX7_areWorlds) ∈ Wds := wdt2 224 (by decide +kernel) rfl
theorem wd2_225 : (Cond.static yX7_areWorlds) ∈ Wds := wdt2 225 (by decide +kernel) rfl
theorem wd2_226 : (Cond.code yX7_areWorlds cX7_areWorlds (1 : Nat) (Option.some FieldType.boolean)) ∈ Wds := wdt2 226 (by decide +kernel) rfl
theorem wd2_227 : (Cond.constantLong RX7 (200 : Nat) (9223372036854775807 : Int64)) ∈ Wds := wdt2 227 (by decide +kernel) rfl
theorem wd2_228 : (Cond.methodLink RX7 (202 : Nat) yX7_hasWorld) ∈ Wds := wdt2 228 (by decide +kernel) rfl
theorem wd2_229 : (Cond.static yX7_hasWorld) ∈ Wds := wdt2 229 (by decide +kernel) rfl
theorem wd2_230 : (Cond.code yX7_hasWorld cX7_hasWorld (2 : Nat) (Option.some FieldType.boolean)) ∈ Wds := wdt2 230 (by decide +kernel) rfl
theorem wd2_231 : (Cond.methodLink RX7 (205 : Nat) yJ9_min_f86c9) ∈ Wds := wdt2 231 (by decide +kernel) rfl
theorem wd2_232 : (Cond.static yJ9_min_f86c9) ∈ Wds := wdt2 232 (by decide +kernel) rfl
theorem wd2_233 : (Cond.code yJ9_min_f86c9 cJ9_min_f86c9 (4 : Nat) (Option.some FieldType.long)) ∈ Wds := wdt2 233 (by decide +kernel) rfl
theorem wd2_234 : (Cond.methodLink RL (93 : Nat) yX7_best) ∈ Wds := wdt2 234 (by decide +kernel) rfl
theorem wd2_235 : (Cond.instanceMethod yX7_best) ∈ Wds := wdt2 235 (by decide +kernel) rfl
theorem wd2_236 : (Cond.selects RX7 yX7_best yX7_best) ∈ Wds := wdt2 236 (by decide +kernel) rfl
theorem wd2_237 : (Cond.code yX7_best cX7_best (8 : Nat) (Option.some FieldType.long)) ∈ Wds := wdt2 237 (by decide +kernel) rfl
theorem wd2_238 : (Cond.methodLink RX7 (211 : Nat) yX5_solve) ∈ Wds := wdt2 238 (by decide +kernel) rfl
theorem wd2_239 : (Cond.instanceMethod yX5_solve) ∈ Wds := wdt2 239 (by decide +kernel) rfl
theorem wd3_0 : (Cond.selects RX5 yX5_solve yX5_solve) ∈ Wds := wdt3 0 (by decide +kernel) rfl
theorem wd3_1 : (Cond.code yX5_solve cX5_solve (6 : Nat) (Option.none : Option FieldType)) ∈ Wds := wdt3 1 (by decide +kernel) rfl
theorem wd3_2 : (Cond.constantLong RX5 (43 : Nat) (-9000000000000000005 : Int64)) ∈ Wds := wdt3 2 (by decide +kernel) rfl
theorem wd3_3 : (Cond.methodLink RX5 (45 : Nat) yX5_openStep) ∈ Wds := wdt3 3 (by decide +kernel) rfl
theorem wd3_5 : (Cond.instanceMethod yX5_openStep) ∈ Wds := wdt3 5 (by decide +kernel) rfl
theorem wd3_6 : (Cond.code yX5_openStep cX5_openStep (9 : Nat) (Option.none : Option FieldType)) ∈ Wds := wdt3 6 (by decide +kernel) rfl
theorem wd3_7 : (Cond.methodLink RX5 (91 : Nat) yX3_keptBack) ∈ Wds := wdt3 7 (by decide +kernel) rfl
theorem wd3_8 : (Cond.methodLink RX5 (102 : Nat) yJ9_min_7cf53) ∈ Wds := wdt3 8 (by decide +kernel) rfl
theorem wd3_9 : (Cond.static yJ9_min_7cf53) ∈ Wds := wdt3 9 (by decide +kernel) rfl
theorem wd3_10 : (Cond.code yJ9_min_7cf53 cJ9_min_7cf53 (2 : Nat) (Option.some FieldType.int)) ∈ Wds := wdt3 10 (by decide +kernel) rfl
theorem wd3_11 : (Cond.methodLink RX5 (110 : Nat) yJ9_max_7cf53) ∈ Wds := wdt3 11 (by decide +kernel) rfl
theorem wd3_12 : (Cond.static yJ9_max_7cf53) ∈ Wds := wdt3 12 (by decide +kernel) rfl
theorem wd3_13 : (Cond.code yJ9_max_7cf53 cJ9_max_7cf53 (2 : Nat) (Option.some FieldType.int)) ∈ Wds := wdt3 13 (by decide +kernel) rfl
theorem wd3_14 : (Cond.methodLink RX5 (128 : Nat) yX5_sumOfPrices) ∈ Wds := wdt3 14 (by decide +kernel) rfl
theorem wd3_16 : (Cond.instanceMethod yX5_sumOfPrices) ∈ Wds := wdt3 16 (by decide +kernel) rfl
theorem wd3_17 : (Cond.code yX5_sumOfPrices cX5_sumOfPrices (6 : Nat) (Option.some FieldType.long)) ∈ Wds := wdt3 17 (by decide +kernel) rfl
theorem wd3_19 : (Cond.methodLink RX5 (148 : Nat) yX6_priceOf) ∈ Wds := wdt3 19 (by decide +kernel) rfl
theorem wd3_20 : (Cond.methodLink RX5 (131 : Nat) yJ6_bitCount_0f7a4) ∈ Wds := wdt3 20 (by decide +kernel) rfl
theorem wd3_21 : (Cond.static yJ6_bitCount_0f7a4) ∈ Wds := wdt3 21 (by decide +kernel) rfl
theorem wd3_22 : (Cond.code yJ6_bitCount_0f7a4 cJ6_bitCount_0f7a4 (1 : Nat) (Option.some FieldType.int)) ∈ Wds := wdt3 22 (by decide +kernel) rfl
theorem wd3_23 : (Cond.constant RJ6 (265 : Nat) (1431655765 : Int32)) ∈ Wds := wdt3 23 (by decide +kernel) rfl
theorem wd3_24 : (Cond.constant RJ6 (266 : Nat) (858993459 : Int32)) ∈ Wds := wdt3 24 (by decide +kernel) rfl
theorem wd3_25 : (Cond.constant RJ6 (267 : Nat) (252645135 : Int32)) ∈ Wds := wdt3 25 (by decide +kernel) rfl
theorem wd3_26 : (Cond.methodLink RX5 (136 : Nat) yX3_allowsMove) ∈ Wds := wdt3 26 (by decide +kernel) rfl
theorem wd3_27 : (Cond.methodLink RX5 (140 : Nat) yX0_moneyTogether) ∈ Wds := wdt3 27 (by decide +kernel) rfl
theorem wd3_28 : (Cond.methodLink RX5 (52 : Nat) yX5_greatest) ∈ Wds := wdt3 28 (by decide +kernel) rfl
theorem wd3_30 : (Cond.instanceMethod yX5_greatest) ∈ Wds := wdt3 30 (by decide +kernel) rfl
theorem wd3_31 : (Cond.code yX5_greatest cX5_greatest (9 : Nat) (Option.some FieldType.long)) ∈ Wds := wdt3 31 (by decide +kernel) rfl
theorem wd3_32 : (Cond.methodLink RX5 (153 : Nat) yX5_lastMove) ∈ Wds := wdt3 32 (by decide +kernel) rfl
theorem wd3_34 : (Cond.instanceMethod yX5_lastMove) ∈ Wds := wdt3 34 (by decide +kernel) rfl
theorem wd3_35 : (Cond.code yX5_lastMove cX5_lastMove (2 : Nat) (Option.some FieldType.int)) ∈ Wds := wdt3 35 (by decide +kernel) rfl
theorem wd3_36 : (Cond.methodLink RX5 (156 : Nat) yX5_firstMove) ∈ Wds := wdt3 36 (by decide +kernel) rfl
theorem wd3_38 : (Cond.instanceMethod yX5_firstMove) ∈ Wds := wdt3 38 (by decide +kernel) rfl
theorem wd3_39 : (Cond.code yX5_firstMove cX5_firstMove (2 : Nat) (Option.some FieldType.int)) ∈ Wds := wdt3 39 (by decide +kernel) rfl
theorem wd3_40 : (Cond.methodLink RX5 (159 : Nat) yX5_worthThrough) ∈ Wds := wdt3 40 (by decide +kernel) rfl
theorem wd3_42 : (Cond.instanceMethod yX5_worthThrough) ∈ Wds := wdt3 42 (by decide +kernel) rfl
theorem wd3_43 : (Cond.code yX5_worthThrough cX5_worthThrough (8 : Nat) (Option.some FieldType.long)) ∈ Wds := wdt3 43 (by decide +kernel) rfl
theorem wd3_44 : (Cond.methodLink RX7 (215 : Nat) yX5_worthOf) ∈ Wds := wdt3 44 (by decide +kernel) rfl
theorem wd3_45 : (Cond.instanceMethod yX5_worthOf) ∈ Wds := wdt3 45 (by decide +kernel) rfl
theorem wd3_46 : (Cond.selects RX5 yX5_worthOf yX5_worthOf) ∈ Wds := wdt3 46 (by decide +kernel) rfl
theorem wd3_47 : (Cond.code yX5_worthOf cX5_worthOf (3 : Nat) (Option.some FieldType.long)) ∈ Wds := wdt3 47 (by decide +kernel) rfl
theorem wd3_48 : (Cond.constantLong RX7 (219 : Nat) (-9000000000000000005 : Int64)) ∈ Wds := wdt3 48 (by decide +kernel) rfl
theorem wd3_49 : (Cond.methodLink RX7 (221 : Nat) yX5_writeFirstBest) ∈ Wds := wdt3 49 (by decide +kernel) rfl
theorem wd3_50 : (Cond.instanceMethod yX5_writeFirstBest) ∈ Wds := wdt3 50 (by decide +kernel) rfl
theorem wd3_51 : (Cond.selects RX5 yX5_writeFirstBest yX5_writeFirstBest) ∈ Wds := wdt3 51 (by decide +kernel) rfl
theorem wd3_52 : (Cond.code yX5_writeFirstBest cX5_writeFirstBest (6 : Nat) (Option.none : Option FieldType)) ∈ Wds := wdt3 52 (by decide +kernel) rfl
theorem wd3_53 : (Cond.methodLink RX5 (59 : Nat) yX5_leastBest) ∈ Wds := wdt3 53 (by decide +kernel) rfl
theorem wd3_55 : (Cond.instanceMethod yX5_leastBest) ∈ Wds := wdt3 55 (by decide +kernel) rfl
theorem wd3_56 : (Cond.code yX5_leastBest cX5_leastBest (5 : Nat) (Option.some FieldType.int)) ∈ Wds := wdt3 56 (by decide +kernel) rfl
theorem wd3_57 : (Cond.methodLink RX5 (163 : Nat) yX5_worthOf) ∈ Wds := wdt3 57 (by decide +kernel) rfl
theorem wd3_58 : (Cond.methodLink RL (97 : Nat) yX7_many) ∈ Wds := wdt3 58 (by decide +kernel) rfl
theorem wd3_59 : (Cond.instanceMethod yX7_many) ∈ Wds := wdt3 59 (by decide +kernel) rfl
theorem wd3_60 : (Cond.selects RX7 yX7_many yX7_many) ∈ Wds := wdt3 60 (by decide +kernel) rfl
theorem wd3_61 : (Cond.code yX7_many cX7_many (6 : Nat) (Option.some FieldType.long)) ∈ Wds := wdt3 61 (by decide +kernel) rfl
theorem wd3_62 : (Cond.methodLink RX7 (225 : Nat) yX5_waysOfBest) ∈ Wds := wdt3 62 (by decide +kernel) rfl
theorem wd3_63 : (Cond.instanceMethod yX5_waysOfBest) ∈ Wds := wdt3 63 (by decide +kernel) rfl
theorem wd3_64 : (Cond.selects RX5 yX5_waysOfBest yX5_waysOfBest) ∈ Wds := wdt3 64 (by decide +kernel) rfl
theorem wd3_65 : (Cond.code yX5_waysOfBest cX5_waysOfBest (6 : Nat) (Option.some FieldType.long)) ∈ Wds := wdt3 65 (by decide +kernel) rfl
theorem wd3_66 : (Cond.methodLink RX5 (67 : Nat) yJ7_fill_d0a16) ∈ Wds := wdt3 66 (by decide +kernel) rfl
theorem wd3_67 : (Cond.static yJ7_fill_d0a16) ∈ Wds := wdt3 67 (by decide +kernel) rfl
theorem wd3_68 : (Cond.code yJ7_fill_d0a16 cJ7_fill_d0a16 (5 : Nat) (Option.none : Option FieldType)) ∈ Wds := wdt3 68 (by decide +kernel) rfl
theorem wd3_69 : (Cond.methodLink RX5 (73 : Nat) yX5_spreadWays) ∈ Wds := wdt3 69 (by decide +kernel) rfl
theorem wd3_71 : (Cond.instanceMethod yX5_spreadWays) ∈ Wds := wdt3 71 (by decide +kernel) rfl
theorem wd3_72 : (Cond.code yX5_spreadWays cX5_spreadWays (5 : Nat) (Option.none : Option FieldType)) ∈ Wds := wdt3 72 (by decide +kernel) rfl
theorem wd3_73 : (Cond.constantLong RX5 (83 : Nat) (1000000000 : Int64)) ∈ Wds := wdt3 73 (by decide +kernel) rfl
theorem wd3_74 : (Cond.methodLink RX5 (85 : Nat) yJ9_min_f86c9) ∈ Wds := wdt3 74 (by decide +kernel) rfl
theorem wd3_75 : (Cond.methodLink RX5 (77 : Nat) (⟨RJ10, "arraycopy", "(Ljava/lang/Object;ILjava/lang/Object;II)V"⟩ : MethodName)) ∈ Wds := wdt3 75 (by decide +kernel) rfl
theorem wd3_76 : (Cond.methodLink RL (101 : Nat) yX7_value) ∈ Wds := wdt3 76 (by decide +kernel) rfl
theorem wd3_77 : (Cond.instanceMethod yX7_value) ∈ Wds := wdt3 77 (by decide +kernel) rfl
theorem wd3_78 : (Cond.selects RX7 yX7_value yX7_value) ∈ Wds := wdt3 78 (by decide +kernel) rfl
theorem wd3_79 : (Cond.code yX7_value cX7_value (8 : Nat) (Option.some FieldType.long)) ∈ Wds := wdt3 79 (by decide +kernel) rfl
theorem wd3_80 : (Cond.methodLink RL (106 : Nat) yX7_bid) ∈ Wds := wdt3 80 (by decide +kernel) rfl
theorem wd3_81 : (Cond.instanceMethod yX7_bid) ∈ Wds := wdt3 81 (by decide +kernel) rfl
theorem wd3_82 : (Cond.selects RX7 yX7_bid yX7_bid) ∈ Wds := wdt3 82 (by decide +kernel) rfl
theorem wd3_83 : (Cond.code yX7_bid cX7_bid (5 : Nat) (Option.some FieldType.long)) ∈ Wds := wdt3 83 (by decide +kernel) rfl
theorem wd3_84 : (Cond.constantLong RX7 (230 : Nat) (-9000000000000000003 : Int64)) ∈ Wds := wdt3 84 (by decide +kernel) rfl
theorem wd3_85 : (Cond.methodLink RX7 (232 : Nat) yX1_add) ∈ Wds := wdt3 85 (by decide +kernel) rfl
theorem wd3_86 : (Cond.instanceMethod yX1_add) ∈ Wds := wdt3 86 (by decide +kernel) rfl
end
section
theorem wd3_87 : (Cond.selects RX1 yX1_add yX1_add) ∈ Wds := wdt3 87 (by decide +kernel) rfl
theorem wd3_88 : (Cond.code yX1_add cX1_add (5 : Nat) (Option.some FieldType.int)) ∈ Wds := wdt3 88 (by decide +kernel) rfl
theorem wd3_89 : (Cond.methodLink RL (110 : Nat) yX7_unbid) ∈ Wds := wdt3 89 (by decide +kernel) rfl
theorem wd3_90 : (Cond.instanceMethod yX7_unbid) ∈ Wds := wdt3 90 (by decide +kernel) rfl
theorem wd3_91 : (Cond.selects RX7 yX7_unbid yX7_unbid) ∈ Wds := wdt3 91 (by decide +kernel) rfl
theorem wd3_92 : (Cond.code yX7_unbid cX7_unbid (1 : Nat) (Option.some FieldType.long)) ∈ Wds := wdt3 92 (by decide +kernel) rfl
theorem wd3_93 : (Cond.methodLink RL (115 : Nat) yX7_taken) ∈ Wds := wdt3 93 (by decide +kernel) rfl
theorem wd3_94 : (Cond.instanceMethod yX7_taken) ∈ Wds := wdt3 94 (by decide +kernel) rfl
theorem wd3_95 : (Cond.selects RX7 yX7_taken yX7_taken) ∈ Wds := wdt3 95 (by decide +kernel) rfl
theorem wd3_96 : (Cond.code yX7_taken cX7_taken (3 : Nat) (Option.some FieldType.long)) ∈ Wds := wdt3 96 (by decide +kernel) rfl
theorem wd3_97 : (Cond.methodLink RX7 (236 : Nat) yX1_isTaken) ∈ Wds := wdt3 97 (by decide +kernel) rfl
theorem wd3_98 : (Cond.instanceMethod yX1_isTaken) ∈ Wds := wdt3 98 (by decide +kernel) rfl
theorem wd3_99 : (Cond.selects RX1 yX1_isTaken yX1_isTaken) ∈ Wds := wdt3 99 (by decide +kernel) rfl
theorem wd3_100 : (Cond.code yX1_isTaken cX1_isTaken (5 : Nat) (Option.some FieldType.boolean)) ∈ Wds := wdt3 100 (by decide +kernel) rfl
theorem wd3_101 : (Cond.methodLink RX1 (28 : Nat) yX6_priceOf) ∈ Wds := wdt3 101 (by decide +kernel) rfl
theorem wd3_102 : (Cond.methodLink RL (119 : Nat) yX7_wanted) ∈ Wds := wdt3 102 (by decide +kernel) rfl
theorem wd3_103 : (Cond.instanceMethod yX7_wanted) ∈ Wds := wdt3 103 (by decide +kernel) rfl
theorem wd3_104 : (Cond.selects RX7 yX7_wanted yX7_wanted) ∈ Wds := wdt3 104 (by decide +kernel) rfl
theorem wd3_105 : (Cond.code yX7_wanted cX7_wanted (3 : Nat) (Option.some FieldType.long)) ∈ Wds := wdt3 105 (by decide +kernel) rfl
theorem wd3_106 : (Cond.methodLink RX7 (240 : Nat) yX1_sumWanted) ∈ Wds := wdt3 106 (by decide +kernel) rfl
theorem wd3_107 : (Cond.instanceMethod yX1_sumWanted) ∈ Wds := wdt3 107 (by decide +kernel) rfl
theorem wd3_108 : (Cond.selects RX1 yX1_sumWanted yX1_sumWanted) ∈ Wds := wdt3 108 (by decide +kernel) rfl
theorem wd3_109 : (Cond.code yX1_sumWanted cX1_sumWanted (5 : Nat) (Option.some FieldType.int)) ∈ Wds := wdt3 109 (by decide +kernel) rfl
theorem wd3_111 : (Cond.methodLink RX1 (38 : Nat) yX1_isTaken) ∈ Wds := wdt3 111 (by decide +kernel) rfl
theorem wd3_112 : (Cond.methodLink RL (123 : Nat) yX7_fill) ∈ Wds := wdt3 112 (by decide +kernel) rfl
theorem wd3_113 : (Cond.instanceMethod yX7_fill) ∈ Wds := wdt3 113 (by decide +kernel) rfl
theorem wd3_114 : (Cond.selects RX7 yX7_fill yX7_fill) ∈ Wds := wdt3 114 (by decide +kernel) rfl
theorem wd3_115 : (Cond.code yX7_fill cX7_fill (12 : Nat) (Option.some FieldType.long)) ∈ Wds := wdt3 115 (by decide +kernel) rfl
theorem wd3_116 : (Cond.methodLink RX7 (244 : Nat) yX0_possible) ∈ Wds := wdt3 116 (by decide +kernel) rfl
theorem wd3_117 : (Cond.instanceMethod yX0_possible) ∈ Wds := wdt3 117 (by decide +kernel) rfl
theorem wd3_118 : (Cond.selects RX0 yX0_possible yX0_possible) ∈ Wds := wdt3 118 (by decide +kernel) rfl
theorem wd3_119 : (Cond.code yX0_possible cX0_possible (5 : Nat) (Option.some FieldType.int)) ∈ Wds := wdt3 119 (by decide +kernel) rfl
theorem wd3_120 : (Cond.methodLink RX0 (67 : Nat) yJ9_min_7cf53) ∈ Wds := wdt3 120 (by decide +kernel) rfl
theorem wd3_121 : (Cond.methodLink RX0 (73 : Nat) yJ9_max_7cf53) ∈ Wds := wdt3 121 (by decide +kernel) rfl
theorem wd3_122 : (Cond.methodLink RX7 (248 : Nat) yJ9_abs_0f7a4) ∈ Wds := wdt3 122 (by decide +kernel) rfl
theorem wd3_123 : (Cond.static yJ9_abs_0f7a4) ∈ Wds := wdt3 123 (by decide +kernel) rfl
theorem wd3_124 : (Cond.code yJ9_abs_0f7a4 cJ9_abs_0f7a4 (1 : Nat) (Option.some FieldType.int)) ∈ Wds := wdt3 124 (by decide +kernel) rfl
theorem wd3_125 : (Cond.methodLink RL (127 : Nat) yX7_meter) ∈ Wds := wdt3 125 (by decide +kernel) rfl
theorem wd3_126 : (Cond.instanceMethod yX7_meter) ∈ Wds := wdt3 126 (by decide +kernel) rfl
theorem wd3_127 : (Cond.selects RX7 yX7_meter yX7_meter) ∈ Wds := wdt3 127 (by decide +kernel) rfl
theorem wd3_128 : (Cond.code yX7_meter cX7_meter (4 : Nat) (Option.some FieldType.long)) ∈ Wds := wdt3 128 (by decide +kernel) rfl
theorem wd3_129 : (Cond.methodLink RL (131 : Nat) yX7_counts) ∈ Wds := wdt3 129 (by decide +kernel) rfl
theorem wd3_130 : (Cond.instanceMethod yX7_counts) ∈ Wds := wdt3 130 (by decide +kernel) rfl
theorem wd3_131 : (Cond.selects RX7 yX7_counts yX7_counts) ∈ Wds := wdt3 131 (by decide +kernel) rfl
theorem wd3_132 : (Cond.code yX7_counts cX7_counts (2 : Nat) (Option.some FieldType.long)) ∈ Wds := wdt3 132 (by decide +kernel) rfl
theorem wd3_133 : (Cond.methodLink RX7 (254 : Nat) yX4_counting) ∈ Wds := wdt3 133 (by decide +kernel) rfl
theorem wd3_134 : (Cond.instanceMethod yX4_counting) ∈ Wds := wdt3 134 (by decide +kernel) rfl
theorem wd3_135 : (Cond.selects RX4 yX4_counting yX4_counting) ∈ Wds := wdt3 135 (by decide +kernel) rfl
theorem wd3_136 : (Cond.code yX4_counting cX4_counting (4 : Nat) (Option.some FieldType.int)) ∈ Wds := wdt3 136 (by decide +kernel) rfl
theorem wd3_137 : (Cond.methodLink RX4 (21 : Nat) yX4_nearestAhead) ∈ Wds := wdt3 137 (by decide +kernel) rfl
theorem wd3_139 : (Cond.instanceMethod yX4_nearestAhead) ∈ Wds := wdt3 139 (by decide +kernel) rfl
theorem wd3_140 : (Cond.code yX4_nearestAhead cX4_nearestAhead (3 : Nat) (Option.some FieldType.int)) ∈ Wds := wdt3 140 (by decide +kernel) rfl
theorem wd3_141 : (Cond.methodLink RX4 (25 : Nat) yX4_nearestBehind) ∈ Wds := wdt3 141 (by decide +kernel) rfl
theorem wd3_143 : (Cond.instanceMethod yX4_nearestBehind) ∈ Wds := wdt3 143 (by decide +kernel) rfl
theorem wd3_144 : (Cond.code yX4_nearestBehind cX4_nearestBehind (3 : Nat) (Option.some FieldType.int)) ∈ Wds := wdt3 144 (by decide +kernel) rfl
theorem wd3_145 : (Cond.methodLink RX4 (28 : Nat) yJ9_floorDiv_7cf53) ∈ Wds := wdt3 145 (by decide +kernel) rfl
theorem wd3_146 : (Cond.static yJ9_floorDiv_7cf53) ∈ Wds := wdt3 146 (by decide +kernel) rfl
theorem wd3_147 : (Cond.code yJ9_floorDiv_7cf53 cJ9_floorDiv_7cf53 (3 : Nat) (Option.some FieldType.int)) ∈ Wds := wdt3 147 (by decide +kernel) rfl
theorem wd3_148 : (Cond.methodLink RL (135 : Nat) yX7_live) ∈ Wds := wdt3 148 (by decide +kernel) rfl
theorem wd3_149 : (Cond.instanceMethod yX7_live) ∈ Wds := wdt3 149 (by decide +kernel) rfl
theorem wd3_150 : (Cond.selects RX7 yX7_live yX7_live) ∈ Wds := wdt3 150 (by decide +kernel) rfl
theorem wd3_151 : (Cond.code yX7_live cX7_live (8 : Nat) (Option.some FieldType.long)) ∈ Wds := wdt3 151 (by decide +kernel) rfl
theorem wd3_152 : (Cond.methodLink RX7 (260 : Nat) yX0_moneyOf) ∈ Wds := wdt3 152 (by decide +kernel) rfl
theorem wd3_153 : (Cond.methodLink RX7 (264 : Nat) yX2_add) ∈ Wds := wdt3 153 (by decide +kernel) rfl
theorem wd3_154 : (Cond.instanceMethod yX2_add) ∈ Wds := wdt3 154 (by decide +kernel) rfl
theorem wd3_155 : (Cond.selects RX2 yX2_add yX2_add) ∈ Wds := wdt3 155 (by decide +kernel) rfl
theorem wd3_156 : (Cond.code yX2_add cX2_add (7 : Nat) (Option.none : Option FieldType)) ∈ Wds := wdt3 156 (by decide +kernel) rfl
theorem wd3_157 : (Cond.methodLink RL (139 : Nat) yX7_row) ∈ Wds := wdt3 157 (by decide +kernel) rfl
theorem wd3_158 : (Cond.instanceMethod yX7_row) ∈ Wds := wdt3 158 (by decide +kernel) rfl
theorem wd3_159 : (Cond.selects RX7 yX7_row yX7_row) ∈ Wds := wdt3 159 (by decide +kernel) rfl
theorem wd3_160 : (Cond.code yX7_row cX7_row (3 : Nat) (Option.some FieldType.long)) ∈ Wds := wdt3 160 (by decide +kernel) rfl
theorem wd3_161 : (Cond.methodLink RX7 (267 : Nat) yX2_fact) ∈ Wds := wdt3 161 (by decide +kernel) rfl
theorem wd3_162 : (Cond.instanceMethod yX2_fact) ∈ Wds := wdt3 162 (by decide +kernel) rfl
theorem wd3_163 : (Cond.selects RX2 yX2_fact yX2_fact) ∈ Wds := wdt3 163 (by decide +kernel) rfl
theorem wd3_164 : (Cond.code yX2_fact cX2_fact (3 : Nat) (Option.some FieldType.long)) ∈ Wds := wdt3 164 (by decide +kernel) rfl
theorem wd3_165 : (Cond.methodLink RL (143 : Nat) yX7_forge) ∈ Wds := wdt3 165 (by decide +kernel) rfl
theorem wd3_166 : (Cond.instanceMethod yX7_forge) ∈ Wds := wdt3 166 (by decide +kernel) rfl
theorem wd3_167 : (Cond.selects RX7 yX7_forge yX7_forge) ∈ Wds := wdt3 167 (by decide +kernel) rfl
theorem wd3_168 : (Cond.code yX7_forge cX7_forge (6 : Nat) (Option.some FieldType.long)) ∈ Wds := wdt3 168 (by decide +kernel) rfl
theorem wd3_169 : (Cond.methodLink RL (147 : Nat) yX7_check) ∈ Wds := wdt3 169 (by decide +kernel) rfl
theorem wd3_170 : (Cond.instanceMethod yX7_check) ∈ Wds := wdt3 170 (by decide +kernel) rfl
theorem wd3_171 : (Cond.selects RX7 yX7_check yX7_check) ∈ Wds := wdt3 171 (by decide +kernel) rfl
theorem wd3_172 : (Cond.code yX7_check cX7_check (6 : Nat) (Option.some FieldType.long)) ∈ Wds := wdt3 172 (by decide +kernel) rfl
theorem wd3_173 : (Cond.methodLink RX7 (277 : Nat) yX2_firstWrong) ∈ Wds := wdt3 173 (by decide +kernel) rfl
theorem wd3_174 : (Cond.instanceMethod yX2_firstWrong) ∈ Wds := wdt3 174 (by decide +kernel) rfl
theorem wd3_175 : (Cond.selects RX2 yX2_firstWrong yX2_firstWrong) ∈ Wds := wdt3 175 (by decide +kernel) rfl
theorem wd3_176 : (Cond.code yX2_firstWrong cX2_firstWrong (10 : Nat) (Option.some FieldType.long)) ∈ Wds := wdt3 176 (by decide +kernel) rfl
theorem wd3_177 : (Cond.constantLong RX2 (32 : Nat) (-9000000000000000005 : Int64)) ∈ Wds := wdt3 177 (by decide +kernel) rfl
theorem wd3_178 : (Cond.methodLink RX2 (39 : Nat) yX6_priceOf) ∈ Wds := wdt3 178 (by decide +kernel) rfl
theorem wd3_179 : (Cond.methodLink RX2 (45 : Nat) yX0_moneyOf) ∈ Wds := wdt3 179 (by decide +kernel) rfl
theorem wd3_181 : (Cond.methodLink RL (151 : Nat) yX7_shut) ∈ Wds := wdt3 181 (by decide +kernel) rfl
theorem wd3_182 : (Cond.instanceMethod yX7_shut) ∈ Wds := wdt3 182 (by decide +kernel) rfl
theorem wd3_183 : (Cond.selects RX7 yX7_shut yX7_shut) ∈ Wds := wdt3 183 (by decide +kernel) rfl
theorem wd3_184 : (Cond.code yX7_shut cX7_shut (2 : Nat) (Option.some FieldType.long)) ∈ Wds := wdt3 184 (by decide +kernel) rfl
theorem wd3_185 : (Cond.methodLink RL (155 : Nat) yX7_warrant) ∈ Wds := wdt3 185 (by decide +kernel) rfl
theorem wd3_186 : (Cond.instanceMethod yX7_warrant) ∈ Wds := wdt3 186 (by decide +kernel) rfl
theorem wd3_187 : (Cond.selects RX7 yX7_warrant yX7_warrant) ∈ Wds := wdt3 187 (by decide +kernel) rfl
theorem wd3_188 : (Cond.code yX7_warrant cX7_warrant (6 : Nat) (Option.some FieldType.long)) ∈ Wds := wdt3 188 (by decide +kernel) rfl
theorem wd3_189 : (Cond.constant RX7 (281 : Nat) (100000 : Int32)) ∈ Wds := wdt3 189 (by decide +kernel) rfl
theorem wd3_190 : (Cond.methodLink RL (159 : Nat) yX7_voided) ∈ Wds := wdt3 190 (by decide +kernel) rfl
theorem wd3_191 : (Cond.instanceMethod yX7_voided) ∈ Wds := wdt3 191 (by decide +kernel) rfl
theorem wd3_192 : (Cond.selects RX7 yX7_voided yX7_voided) ∈ Wds := wdt3 192 (by decide +kernel) rfl
theorem wd3_193 : (Cond.code yX7_voided cX7_voided (4 : Nat) (Option.some FieldType.long)) ∈ Wds := wdt3 193 (by decide +kernel) rfl
theorem wd3_194 : (Cond.methodLink RX7 (285 : Nat) yX2_firstBeyond) ∈ Wds := wdt3 194 (by decide +kernel) rfl
theorem wd3_195 : (Cond.instanceMethod yX2_firstBeyond) ∈ Wds := wdt3 195 (by decide +kernel) rfl
theorem wd3_196 : (Cond.selects RX2 yX2_firstBeyond yX2_firstBeyond) ∈ Wds := wdt3 196 (by decide +kernel) rfl
theorem wd3_197 : (Cond.code yX2_firstBeyond cX2_firstBeyond (5 : Nat) (Option.some FieldType.long)) ∈ Wds := wdt3 197 (by decide +kernel) rfl
theorem wd3_198 : (Cond.methodLink RX2 (56 : Nat) yJ9_abs_0f7a4) ∈ Wds := wdt3 198 (by decide +kernel) rfl
theorem wd3_199 : (Cond.methodLink RL (163 : Nat) yX7_count) ∈ Wds := wdt3 199 (by decide +kernel) rfl
theorem wd3_200 : (Cond.instanceMethod yX7_count) ∈ Wds := wdt3 200 (by decide +kernel) rfl
theorem wd3_201 : (Cond.selects RX7 yX7_count yX7_count) ∈ Wds := wdt3 201 (by decide +kernel) rfl
theorem wd3_202 : (Cond.code yX7_count cX7_count (2 : Nat) (Option.some FieldType.long)) ∈ Wds := wdt3 202 (by decide +kernel) rfl
theorem wd3_203 : (Cond.methodLink RX7 (288 : Nat) yX7_storesThere) ∈ Wds := wdt3 203 (by decide +kernel) rfl
theorem wd3_205 : (Cond.instanceMethod yX7_storesThere) ∈ Wds := wdt3 205 (by decide +kernel) rfl
theorem wd3_206 : (Cond.code yX7_storesThere cX7_storesThere (3 : Nat) (Option.some FieldType.int)) ∈ Wds := wdt3 206 (by decide +kernel) rfl
theorem wd3_207 : (Cond.methodLink RX7 (292 : Nat) yX7_worldsThere) ∈ Wds := wdt3 207 (by decide +kernel) rfl
theorem wd3_209 : (Cond.instanceMethod yX7_worldsThere) ∈ Wds := wdt3 209 (by decide +kernel) rfl
theorem wd3_210 : (Cond.code yX7_worldsThere cX7_worldsThere (3 : Nat) (Option.some FieldType.int)) ∈ Wds := wdt3 210 (by decide +kernel) rfl
theorem wd3_211 : (Cond.methodLink RX7 (295 : Nat) yX4_readingsThere) ∈ Wds := wdt3 211 (by decide +kernel) rfl
theorem wd3_212 : (Cond.instanceMethod yX4_readingsThere) ∈ Wds := wdt3 212 (by decide +kernel) rfl
theorem wd3_213 : (Cond.selects RX4 yX4_readingsThere yX4_readingsThere) ∈ Wds := wdt3 213 (by decide +kernel) rfl
theorem wd3_214 : (Cond.code yX4_readingsThere cX4_readingsThere (3 : Nat) (Option.some FieldType.int)) ∈ Wds := wdt3 214 (by decide +kernel) rfl
theorem wd3_215 : (Cond.methodLink RX7 (298 : Nat) yX3_darkSteps) ∈ Wds := wdt3 215 (by decide +kernel) rfl
theorem wd3_216 : (Cond.instanceMethod yX3_darkSteps) ∈ Wds := wdt3 216 (by decide +kernel) rfl
theorem wd3_217 : (Cond.selects RX3 yX3_darkSteps yX3_darkSteps) ∈ Wds := wdt3 217 (by decide +kernel) rfl
theorem wd3_218 : (Cond.code yX3_darkSteps cX3_darkSteps (3 : Nat) (Option.some FieldType.int)) ∈ Wds := wdt3 218 (by decide +kernel) rfl
theorem wd3_219 : (Cond.methodLink RX7 (301 : Nat) yX2_allMoney) ∈ Wds := wdt3 219 (by decide +kernel) rfl
theorem wd3_220 : (Cond.instanceMethod yX2_allMoney) ∈ Wds := wdt3 220 (by decide +kernel) rfl
theorem wd3_221 : (Cond.selects RX2 yX2_allMoney yX2_allMoney) ∈ Wds := wdt3 221 (by decide +kernel) rfl
theorem wd3_222 : (Cond.code yX2_allMoney cX2_allMoney (4 : Nat) (Option.some FieldType.long)) ∈ Wds := wdt3 222 (by decide +kernel) rfl
theorem wd3_223 : (Cond.classLink RL (10 : Nat) RX8) ∈ Wds := wdt3 223 (by decide +kernel) rfl
theorem wd3_224 : (Cond.instantiable RX8 (24 : Nat)) ∈ Wds := wdt3 224 (by decide +kernel) rfl
theorem wd3_225 : (Cond.methodLink RL (12 : Nat) yX8_init) ∈ Wds := wdt3 225 (by decide +kernel) rfl
theorem wd3_226 : (Cond.instanceMethod yX8_init) ∈ Wds := wdt3 226 (by decide +kernel) rfl
theorem wd3_227 : (Cond.code yX8_init cX8_init (2 : Nat) (Option.none : Option FieldType)) ∈ Wds := wdt3 227 (by decide +kernel) rfl
theorem wd3_228 : (Cond.methodLink RX8 (1 : Nat) (⟨"java/lang/Object", "<init>", "()V"⟩ : MethodName)) ∈ Wds := wdt3 228 (by decide +kernel) rfl
theorem wd3_229 : (Cond.fieldLink RX8 (7 : Nat) RX8 "many" "I") ∈ Wds := wdt3 229 (by decide +kernel) rfl
theorem wd3_230 : (Cond.fieldLink RX8 (13 : Nat) RX8 "isDark" "[Z") ∈ Wds := wdt3 230 (by decide +kernel) rfl
theorem wd3_231 : (Cond.fieldLink RX8 (17 : Nat) RX8 "kept" "[I") ∈ Wds := wdt3 231 (by decide +kernel) rfl
theorem wd3_232 : (Cond.fieldLink RX8 (21 : Nat) RX8 "widths" "[I") ∈ Wds := wdt3 232 (by decide +kernel) rfl
theorem wd3_233 : (Cond.fieldLink RX8 (24 : Nat) RX8 "places" "[I") ∈ Wds := wdt3 233 (by decide +kernel) rfl
theorem wd3_234 : (Cond.fieldLink RX8 (27 : Nat) RX8 "prices" "[I") ∈ Wds := wdt3 234 (by decide +kernel) rfl
theorem wd3_235 : (Cond.fieldLink RX8 (30 : Nat) RX8 "kinds" "[I") ∈ Wds := wdt3 235 (by decide +kernel) rfl
theorem wd3_236 : (Cond.fieldLink RX8 (33 : Nat) RX8 "sizes" "[I") ∈ Wds := wdt3 236 (by decide +kernel) rfl
theorem wd3_237 : (Cond.fieldLink RX8 (36 : Nat) RX8 "charges" "[I") ∈ Wds := wdt3 237 (by decide +kernel) rfl
theorem wd3_238 : (Cond.fieldLink RX8 (39 : Nat) RX8 "ins" "[I") ∈ Wds := wdt3 238 (by decide +kernel) rfl
theorem wd3_239 : (Cond.fieldLink RX8 (42 : Nat) RX8 "outs" "[I") ∈ Wds := wdt3 239 (by decide +kernel) rfl
theorem wd4_0 : (Cond.fieldLink RX8 (45 : Nat) RX8 "losses" "[I") ∈ Wds := wdt4 0 (by decide +kernel) rfl
theorem wd4_1 : (Cond.fieldLink RX8 (48 : Nat) RX8 "wears" "[I") ∈ Wds := wdt4 1 (by decide +kernel) rfl
theorem wd4_2 : (Cond.fieldLink RX8 (51 : Nat) RX8 "ends" "[I") ∈ Wds := wdt4 2 (by decide +kernel) rfl
theorem wd4_3 : (Cond.fieldLink RX8 (54 : Nat) RX8 "warranties" "[I") ∈ Wds := wdt4 3 (by decide +kernel) rfl
theorem wd4_4 : (Cond.fieldLink RX8 (57 : Nat) RX8 "plans" "[I") ∈ Wds := wdt4 4 (by decide +kernel) rfl
theorem wd4_5 : (Cond.fieldLink RX8 (60 : Nat) RX8 "bids" "[I") ∈ Wds := wdt4 5 (by decide +kernel) rfl
theorem wd4_6 : (Cond.fieldLink RX8 (89 : Nat) RX8 "bidMany" "I") ∈ Wds := wdt4 6 (by decide +kernel) rfl
theorem wd4_7 : (Cond.fieldLink RX8 (63 : Nat) RX8 "meters" "[I") ∈ Wds := wdt4 7 (by decide +kernel) rfl
theorem wd4_8 : (Cond.fieldLink RX8 (66 : Nat) RX8 "book" "[J") ∈ Wds := wdt4 8 (by decide +kernel) rfl
theorem wd4_9 : (Cond.fieldLink RX8 (240 : Nat) RX8 "rows" "I") ∈ Wds := wdt4 9 (by decide +kernel) rfl
theorem wd4_10 : (Cond.fieldLink RX8 (70 : Nat) RX8 "aside" "[I") ∈ Wds := wdt4 10 (by decide +kernel) rfl
theorem wd4_11 : (Cond.fieldLink RX8 (73 : Nat) RX8 "value" "[J") ∈ Wds := wdt4 11 (by decide +kernel) rfl
theorem wd4_12 : (Cond.fieldLink RX8 (76 : Nat) RX8 "ways" "[J") ∈ Wds := wdt4 12 (by decide +kernel) rfl
theorem wd4_13 : (Cond.lays "HourStoreModel" "HourStoreModel" "many" "I") ∈ Wds := wdt4 13 (by decide +kernel) rfl
theorem wd4_15 : (Cond.laysFinal "HourStoreModel" "HourStoreModel" "isDark" "[Z") ∈ Wds := wdt4 15 (by decide +kernel) rfl
theorem wd4_17 : (Cond.laysFinal "HourStoreModel" "HourStoreModel" "kept" "[I") ∈ Wds := wdt4 17 (by decide +kernel) rfl
theorem wd4_19 : (Cond.laysFinal "HourStoreModel" "HourStoreModel" "widths" "[I") ∈ Wds := wdt4 19 (by decide +kernel) rfl
theorem wd4_21 : (Cond.laysFinal "HourStoreModel" "HourStoreModel" "places" "[I") ∈ Wds := wdt4 21 (by decide +kernel) rfl
theorem wd4_23 : (Cond.laysFinal "HourStoreModel" "HourStoreModel" "prices" "[I") ∈ Wds := wdt4 23 (by decide +kernel) rfl
theorem wd4_25 : (Cond.laysFinal "HourStoreModel" "HourStoreModel" "kinds" "[I") ∈ Wds := wdt4 25 (by decide +kernel) rfl
theorem wd4_27 : (Cond.laysFinal "HourStoreModel" "HourStoreModel" "sizes" "[I") ∈ Wds := wdt4 27 (by decide +kernel) rfl
theorem wd4_29 : (Cond.laysFinal "HourStoreModel" "HourStoreModel" "charges" "[I") ∈ Wds := wdt4 29 (by decide +kernel) rfl
theorem wd4_31 : (Cond.laysFinal "HourStoreModel" "HourStoreModel" "ins" "[I") ∈ Wds := wdt4 31 (by decide +kernel) rfl
theorem wd4_33 : (Cond.laysFinal "HourStoreModel" "HourStoreModel" "outs" "[I") ∈ Wds := wdt4 33 (by decide +kernel) rfl
theorem wd4_35 : (Cond.laysFinal "HourStoreModel" "HourStoreModel" "losses" "[I") ∈ Wds := wdt4 35 (by decide +kernel) rfl
theorem wd4_37 : (Cond.laysFinal "HourStoreModel" "HourStoreModel" "wears" "[I") ∈ Wds := wdt4 37 (by decide +kernel) rfl
theorem wd4_39 : (Cond.laysFinal "HourStoreModel" "HourStoreModel" "ends" "[I") ∈ Wds := wdt4 39 (by decide +kernel) rfl
theorem wd4_41 : (Cond.laysFinal "HourStoreModel" "HourStoreModel" "warranties" "[I") ∈ Wds := wdt4 41 (by decide +kernel) rfl
theorem wd4_43 : (Cond.laysFinal "HourStoreModel" "HourStoreModel" "plans" "[I") ∈ Wds := wdt4 43 (by decide +kernel) rfl
theorem wd4_45 : (Cond.laysFinal "HourStoreModel" "HourStoreModel" "bids" "[I") ∈ Wds := wdt4 45 (by decide +kernel) rfl
theorem wd4_47 : (Cond.lays "HourStoreModel" "HourStoreModel" "bidMany" "I") ∈ Wds := wdt4 47 (by decide +kernel) rfl
theorem wd4_49 : (Cond.laysFinal "HourStoreModel" "HourStoreModel" "meters" "[I") ∈ Wds := wdt4 49 (by decide +kernel) rfl
theorem wd4_51 : (Cond.laysFinal "HourStoreModel" "HourStoreModel" "book" "[J") ∈ Wds := wdt4 51 (by decide +kernel) rfl
theorem wd4_53 : (Cond.lays "HourStoreModel" "HourStoreModel" "rows" "I") ∈ Wds := wdt4 53 (by decide +kernel) rfl
theorem wd4_55 : (Cond.laysFinal "HourStoreModel" "HourStoreModel" "aside" "[I") ∈ Wds := wdt4 55 (by decide +kernel) rfl
theorem wd4_57 : (Cond.laysFinal "HourStoreModel" "HourStoreModel" "value" "[J") ∈ Wds := wdt4 57 (by decide +kernel) rfl
theorem wd4_59 : (Cond.laysFinal "HourStoreModel" "HourStoreModel" "ways" "[J") ∈ Wds := wdt4 59 (by decide +kernel) rfl
theorem wd4_62 : (Cond.methodLink RL (17 : Nat) yX8_time) ∈ Wds := wdt4 62 (by decide +kernel) rfl
theorem wd4_63 : (Cond.instanceMethod yX8_time) ∈ Wds := wdt4 63 (by decide +kernel) rfl
theorem wd4_64 : (Cond.selects RX8 yX8_time yX8_time) ∈ Wds := wdt4 64 (by decide +kernel) rfl
theorem wd4_65 : (Cond.code yX8_time cX8_time (4 : Nat) (Option.some FieldType.long)) ∈ Wds := wdt4 65 (by decide +kernel) rfl
theorem wd4_66 : (Cond.constantLong RX8 (85 : Nat) (36 : Int64)) ∈ Wds := wdt4 66 (by decide +kernel) rfl
theorem wd4_67 : (Cond.methodLink RX8 (81 : Nat) yX8_isIn) ∈ Wds := wdt4 67 (by decide +kernel) rfl
theorem wd4_68 : (Cond.static yX8_isIn) ∈ Wds := wdt4 68 (by decide +kernel) rfl
theorem wd4_69 : (Cond.code yX8_isIn cX8_isIn (6 : Nat) (Option.some FieldType.boolean)) ∈ Wds := wdt4 69 (by decide +kernel) rfl
theorem wd4_70 : (Cond.constantLong RX8 (87 : Nat) (-9000000000000000001 : Int64)) ∈ Wds := wdt4 70 (by decide +kernel) rfl
theorem wd4_71 : (Cond.methodLink RL (22 : Nat) yX8_dark) ∈ Wds := wdt4 71 (by decide +kernel) rfl
theorem wd4_72 : (Cond.instanceMethod yX8_dark) ∈ Wds := wdt4 72 (by decide +kernel) rfl
theorem wd4_73 : (Cond.selects RX8 yX8_dark yX8_dark) ∈ Wds := wdt4 73 (by decide +kernel) rfl
theorem wd4_74 : (Cond.code yX8_dark cX8_dark (4 : Nat) (Option.some FieldType.long)) ∈ Wds := wdt4 74 (by decide +kernel) rfl
theorem wd4_75 : (Cond.constantLong RX8 (92 : Nat) (35 : Int64)) ∈ Wds := wdt4 75 (by decide +kernel) rfl
theorem wd4_76 : (Cond.methodLink RL (26 : Nat) yX8_keep) ∈ Wds := wdt4 76 (by decide +kernel) rfl
theorem wd4_77 : (Cond.instanceMethod yX8_keep) ∈ Wds := wdt4 77 (by decide +kernel) rfl
theorem wd4_78 : (Cond.selects RX8 yX8_keep yX8_keep) ∈ Wds := wdt4 78 (by decide +kernel) rfl
theorem wd4_79 : (Cond.code yX8_keep cX8_keep (5 : Nat) (Option.some FieldType.long)) ∈ Wds := wdt4 79 (by decide +kernel) rfl
theorem wd4_80 : (Cond.constantLong RX8 (94 : Nat) (10 : Int64)) ∈ Wds := wdt4 80 (by decide +kernel) rfl
theorem wd4_81 : (Cond.methodLink RL (31 : Nat) yX8_world) ∈ Wds := wdt4 81 (by decide +kernel) rfl
theorem wd4_82 : (Cond.instanceMethod yX8_world) ∈ Wds := wdt4 82 (by decide +kernel) rfl
theorem wd4_83 : (Cond.selects RX8 yX8_world yX8_world) ∈ Wds := wdt4 83 (by decide +kernel) rfl
theorem wd4_84 : (Cond.code yX8_world cX8_world (5 : Nat) (Option.some FieldType.long)) ∈ Wds := wdt4 84 (by decide +kernel) rfl
theorem wd4_85 : (Cond.methodLink RX8 (96 : Nat) yX8_isWorld) ∈ Wds := wdt4 85 (by decide +kernel) rfl
theorem wd4_86 : (Cond.static yX8_isWorld) ∈ Wds := wdt4 86 (by decide +kernel) rfl
theorem wd4_87 : (Cond.code yX8_isWorld cX8_isWorld (1 : Nat) (Option.some FieldType.boolean)) ∈ Wds := wdt4 87 (by decide +kernel) rfl
theorem wd4_88 : (Cond.constantLong RX8 (79 : Nat) (3 : Int64)) ∈ Wds := wdt4 88 (by decide +kernel) rfl
theorem wd4_89 : (Cond.constantLong RX8 (100 : Nat) (2 : Int64)) ∈ Wds := wdt4 89 (by decide +kernel) rfl
theorem wd4_90 : (Cond.constantLong RX8 (102 : Nat) (-9000000000000000014 : Int64)) ∈ Wds := wdt4 90 (by decide +kernel) rfl
theorem wd4_91 : (Cond.methodLink RL (35 : Nat) yX8_lose) ∈ Wds := wdt4 91 (by decide +kernel) rfl
theorem wd4_92 : (Cond.instanceMethod yX8_lose) ∈ Wds := wdt4 92 (by decide +kernel) rfl
theorem wd4_93 : (Cond.selects RX8 yX8_lose yX8_lose) ∈ Wds := wdt4 93 (by decide +kernel) rfl
theorem wd4_94 : (Cond.code yX8_lose cX8_lose (4 : Nat) (Option.some FieldType.long)) ∈ Wds := wdt4 94 (by decide +kernel) rfl
theorem wd4_95 : (Cond.constantLong RX8 (104 : Nat) (-9000000000000000011 : Int64)) ∈ Wds := wdt4 95 (by decide +kernel) rfl
theorem wd4_96 : (Cond.methodLink RL (39 : Nat) yX8_price) ∈ Wds := wdt4 96 (by decide +kernel) rfl
theorem wd4_97 : (Cond.instanceMethod yX8_price) ∈ Wds := wdt4 97 (by decide +kernel) rfl
theorem wd4_98 : (Cond.selects RX8 yX8_price yX8_price) ∈ Wds := wdt4 98 (by decide +kernel) rfl
theorem wd4_99 : (Cond.code yX8_price cX8_price (7 : Nat) (Option.some FieldType.long)) ∈ Wds := wdt4 99 (by decide +kernel) rfl
theorem wd4_100 : (Cond.constantLong RX8 (106 : Nat) (-9000000000000000013 : Int64)) ∈ Wds := wdt4 100 (by decide +kernel) rfl
theorem wd4_101 : (Cond.methodLink RL (44 : Nat) yX8_copy) ∈ Wds := wdt4 101 (by decide +kernel) rfl
theorem wd4_102 : (Cond.instanceMethod yX8_copy) ∈ Wds := wdt4 102 (by decide +kernel) rfl
theorem wd4_103 : (Cond.selects RX8 yX8_copy yX8_copy) ∈ Wds := wdt4 103 (by decide +kernel) rfl
theorem wd4_104 : (Cond.code yX8_copy cX8_copy (7 : Nat) (Option.some FieldType.long)) ∈ Wds := wdt4 104 (by decide +kernel) rfl
theorem wd4_105 : (Cond.constantLong RX8 (108 : Nat) (-9000000000000000002 : Int64)) ∈ Wds := wdt4 105 (by decide +kernel) rfl
theorem wd4_106 : (Cond.methodLink RL (48 : Nat) yX8_told) ∈ Wds := wdt4 106 (by decide +kernel) rfl
theorem wd4_107 : (Cond.instanceMethod yX8_told) ∈ Wds := wdt4 107 (by decide +kernel) rfl
theorem wd4_108 : (Cond.selects RX8 yX8_told yX8_told) ∈ Wds := wdt4 108 (by decide +kernel) rfl
theorem wd4_109 : (Cond.code yX8_told cX8_told (3 : Nat) (Option.some FieldType.long)) ∈ Wds := wdt4 109 (by decide +kernel) rfl
theorem wd4_110 : (Cond.methodLink RX8 (110 : Nat) yX8_priceOf) ∈ Wds := wdt4 110 (by decide +kernel) rfl
theorem wd4_112 : (Cond.instanceMethod yX8_priceOf) ∈ Wds := wdt4 112 (by decide +kernel) rfl
theorem wd4_113 : (Cond.code yX8_priceOf cX8_priceOf (3 : Nat) (Option.some FieldType.int)) ∈ Wds := wdt4 113 (by decide +kernel) rfl
theorem wd4_114 : (Cond.methodLink RL (52 : Nat) yX8_store) ∈ Wds := wdt4 114 (by decide +kernel) rfl
theorem wd4_115 : (Cond.instanceMethod yX8_store) ∈ Wds := wdt4 115 (by decide +kernel) rfl
theorem wd4_116 : (Cond.selects RX8 yX8_store yX8_store) ∈ Wds := wdt4 116 (by decide +kernel) rfl
theorem wd4_117 : (Cond.code yX8_store cX8_store (9 : Nat) (Option.some FieldType.long)) ∈ Wds := wdt4 117 (by decide +kernel) rfl
theorem wd4_118 : (Cond.constantLong RX8 (114 : Nat) (21 : Int64)) ∈ Wds := wdt4 118 (by decide +kernel) rfl
theorem wd4_119 : (Cond.constantLong RX8 (116 : Nat) (440 : Int64)) ∈ Wds := wdt4 119 (by decide +kernel) rfl
theorem wd4_120 : (Cond.constantLong RX8 (118 : Nat) (20 : Int64)) ∈ Wds := wdt4 120 (by decide +kernel) rfl
theorem wd4_121 : (Cond.constantLong RX8 (120 : Nat) (5150 : Int64)) ∈ Wds := wdt4 121 (by decide +kernel) rfl
theorem wd4_122 : (Cond.constantLong RX8 (122 : Nat) (50 : Int64)) ∈ Wds := wdt4 122 (by decide +kernel) rfl
theorem wd4_123 : (Cond.methodLink RX8 (124 : Nat) yX8_isStore) ∈ Wds := wdt4 123 (by decide +kernel) rfl
theorem wd4_124 : (Cond.static yX8_isStore) ∈ Wds := wdt4 124 (by decide +kernel) rfl
theorem wd4_125 : (Cond.code yX8_isStore cX8_isStore (1 : Nat) (Option.some FieldType.boolean)) ∈ Wds := wdt4 125 (by decide +kernel) rfl
theorem wd4_126 : (Cond.constantLong RX8 (127 : Nat) (4 : Int64)) ∈ Wds := wdt4 126 (by decide +kernel) rfl
theorem wd4_127 : (Cond.constantLong RX8 (129 : Nat) (60 : Int64)) ∈ Wds := wdt4 127 (by decide +kernel) rfl
theorem wd4_128 : (Cond.constant RX8 (131 : Nat) (100000 : Int32)) ∈ Wds := wdt4 128 (by decide +kernel) rfl
theorem wd4_129 : (Cond.methodLink RX8 (132 : Nat) yX8_floorOf) ∈ Wds := wdt4 129 (by decide +kernel) rfl
theorem wd4_131 : (Cond.instanceMethod yX8_floorOf) ∈ Wds := wdt4 131 (by decide +kernel) rfl
theorem wd4_132 : (Cond.code yX8_floorOf cX8_floorOf (2 : Nat) (Option.some FieldType.int)) ∈ Wds := wdt4 132 (by decide +kernel) rfl
theorem wd4_133 : (Cond.methodLink RL (56 : Nat) yX8_charge) ∈ Wds := wdt4 133 (by decide +kernel) rfl
theorem wd4_134 : (Cond.instanceMethod yX8_charge) ∈ Wds := wdt4 134 (by decide +kernel) rfl
theorem wd4_135 : (Cond.selects RX8 yX8_charge yX8_charge) ∈ Wds := wdt4 135 (by decide +kernel) rfl
theorem wd4_136 : (Cond.code yX8_charge cX8_charge (7 : Nat) (Option.some FieldType.long)) ∈ Wds := wdt4 136 (by decide +kernel) rfl
theorem wd4_137 : (Cond.methodLink RX8 (142 : Nat) yX8_asked) ∈ Wds := wdt4 137 (by decide +kernel) rfl
theorem wd4_139 : (Cond.instanceMethod yX8_asked) ∈ Wds := wdt4 139 (by decide +kernel) rfl
theorem wd4_140 : (Cond.code yX8_asked cX8_asked (2 : Nat) (Option.some FieldType.long)) ∈ Wds := wdt4 140 (by decide +kernel) rfl
theorem wd4_141 : (Cond.methodLink RX8 (146 : Nat) yX8_topOf) ∈ Wds := wdt4 141 (by decide +kernel) rfl
theorem wd4_143 : (Cond.instanceMethod yX8_topOf) ∈ Wds := wdt4 143 (by decide +kernel) rfl
theorem wd4_144 : (Cond.code yX8_topOf cX8_topOf (2 : Nat) (Option.some FieldType.int)) ∈ Wds := wdt4 144 (by decide +kernel) rfl
theorem wd4_145 : (Cond.methodLink RX8 (139 : Nat) yX8_isOld) ∈ Wds := wdt4 145 (by decide +kernel) rfl
theorem wd4_147 : (Cond.instanceMethod yX8_isOld) ∈ Wds := wdt4 147 (by decide +kernel) rfl
theorem wd4_148 : (Cond.code yX8_isOld cX8_isOld (2 : Nat) (Option.some FieldType.boolean)) ∈ Wds := wdt4 148 (by decide +kernel) rfl
theorem wd4_149 : (Cond.methodLink RL (60 : Nat) yX8_end) ∈ Wds := wdt4 149 (by decide +kernel) rfl
theorem wd4_150 : (Cond.instanceMethod yX8_end) ∈ Wds := wdt4 150 (by decide +kernel) rfl
theorem wd4_151 : (Cond.selects RX8 yX8_end yX8_end) ∈ Wds := wdt4 151 (by decide +kernel) rfl
theorem wd4_152 : (Cond.code yX8_end cX8_end (5 : Nat) (Option.some FieldType.long)) ∈ Wds := wdt4 152 (by decide +kernel) rfl
theorem wd4_153 : (Cond.methodLink RL (64 : Nat) yX8_about) ∈ Wds := wdt4 153 (by decide +kernel) rfl
theorem wd4_154 : (Cond.instanceMethod yX8_about) ∈ Wds := wdt4 154 (by decide +kernel) rfl
theorem wd4_155 : (Cond.selects RX8 yX8_about yX8_about) ∈ Wds := wdt4 155 (by decide +kernel) rfl
theorem wd4_156 : (Cond.code yX8_about cX8_about (3 : Nat) (Option.some FieldType.long)) ∈ Wds := wdt4 156 (by decide +kernel) rfl
theorem wd4_157 : (Cond.methodLink RX8 (149 : Nat) yX8_in) ∈ Wds := wdt4 157 (by decide +kernel) rfl
theorem wd4_159 : (Cond.instanceMethod yX8_in) ∈ Wds := wdt4 159 (by decide +kernel) rfl
theorem wd4_160 : (Cond.code yX8_in cX8_in (2 : Nat) (Option.some FieldType.int)) ∈ Wds := wdt4 160 (by decide +kernel) rfl
theorem wd4_161 : (Cond.methodLink RX8 (136 : Nat) yX8_isQuick) ∈ Wds := wdt4 161 (by decide +kernel) rfl
theorem wd4_163 : (Cond.instanceMethod yX8_isQuick) ∈ Wds := wdt4 163 (by decide +kernel) rfl
theorem wd4_164 : (Cond.code yX8_isQuick cX8_isQuick (2 : Nat) (Option.some FieldType.boolean)) ∈ Wds := wdt4 164 (by decide +kernel) rfl
theorem wd4_165 : (Cond.methodLink RX8 (152 : Nat) yX8_out) ∈ Wds := wdt4 165 (by decide +kernel) rfl
theorem wd4_167 : (Cond.instanceMethod yX8_out) ∈ Wds := wdt4 167 (by decide +kernel) rfl
theorem wd4_168 : (Cond.code yX8_out cX8_out (2 : Nat) (Option.some FieldType.int)) ∈ Wds := wdt4 168 (by decide +kernel) rfl
theorem wd4_169 : (Cond.methodLink RX8 (155 : Nat) yX8_loss) ∈ Wds := wdt4 169 (by decide +kernel) rfl
theorem wd4_171 : (Cond.instanceMethod yX8_loss) ∈ Wds := wdt4 171 (by decide +kernel) rfl
theorem wd4_172 : (Cond.code yX8_loss cX8_loss (2 : Nat) (Option.some FieldType.int)) ∈ Wds := wdt4 172 (by decide +kernel) rfl
theorem wd4_173 : (Cond.methodLink RL (68 : Nat) yX8_isOf) ∈ Wds := wdt4 173 (by decide +kernel) rfl
theorem wd4_174 : (Cond.instanceMethod yX8_isOf) ∈ Wds := wdt4 174 (by decide +kernel) rfl
theorem wd4_175 : (Cond.selects RX8 yX8_isOf yX8_isOf) ∈ Wds := wdt4 175 (by decide +kernel) rfl
theorem wd4_176 : (Cond.code yX8_isOf cX8_isOf (4 : Nat) (Option.some FieldType.long)) ∈ Wds := wdt4 176 (by decide +kernel) rfl
theorem wd4_177 : (Cond.methodLink RL (72 : Nat) yX8_put) ∈ Wds := wdt4 177 (by decide +kernel) rfl
theorem wd4_178 : (Cond.instanceMethod yX8_put) ∈ Wds := wdt4 178 (by decide +kernel) rfl
theorem wd4_179 : (Cond.selects RX8 yX8_put yX8_put) ∈ Wds := wdt4 179 (by decide +kernel) rfl
theorem wd4_180 : (Cond.code yX8_put cX8_put (8 : Nat) (Option.some FieldType.long)) ∈ Wds := wdt4 180 (by decide +kernel) rfl
theorem wd4_181 : (Cond.methodLink RX8 (158 : Nat) yX8_isStep) ∈ Wds := wdt4 181 (by decide +kernel) rfl
theorem wd4_183 : (Cond.instanceMethod yX8_isStep) ∈ Wds := wdt4 183 (by decide +kernel) rfl
theorem wd4_184 : (Cond.code yX8_isStep cX8_isStep (2 : Nat) (Option.some FieldType.boolean)) ∈ Wds := wdt4 184 (by decide +kernel) rfl
theorem wd4_185 : (Cond.constantLong RX8 (161 : Nat) (-100 : Int64)) ∈ Wds := wdt4 185 (by decide +kernel) rfl
theorem wd4_186 : (Cond.constantLong RX8 (163 : Nat) (100 : Int64)) ∈ Wds := wdt4 186 (by decide +kernel) rfl
theorem wd4_187 : (Cond.methodLink RL (76 : Nat) yX8_planned) ∈ Wds := wdt4 187 (by decide +kernel) rfl
theorem wd4_188 : (Cond.instanceMethod yX8_planned) ∈ Wds := wdt4 188 (by decide +kernel) rfl
theorem wd4_189 : (Cond.selects RX8 yX8_planned yX8_planned) ∈ Wds := wdt4 189 (by decide +kernel) rfl
theorem wd4_190 : (Cond.code yX8_planned cX8_planned (5 : Nat) (Option.some FieldType.long)) ∈ Wds := wdt4 190 (by decide +kernel) rfl
theorem wd4_191 : (Cond.methodLink RL (80 : Nat) yX8_behind) ∈ Wds := wdt4 191 (by decide +kernel) rfl
theorem wd4_192 : (Cond.instanceMethod yX8_behind) ∈ Wds := wdt4 192 (by decide +kernel) rfl
theorem wd4_193 : (Cond.selects RX8 yX8_behind yX8_behind) ∈ Wds := wdt4 193 (by decide +kernel) rfl
theorem wd4_194 : (Cond.code yX8_behind cX8_behind (5 : Nat) (Option.some FieldType.long)) ∈ Wds := wdt4 194 (by decide +kernel) rfl
theorem wd4_195 : (Cond.methodLink RX8 (165 : Nat) yX8_behindOf) ∈ Wds := wdt4 195 (by decide +kernel) rfl
theorem wd4_197 : (Cond.instanceMethod yX8_behindOf) ∈ Wds := wdt4 197 (by decide +kernel) rfl
theorem wd4_198 : (Cond.code yX8_behindOf cX8_behindOf (5 : Nat) (Option.some FieldType.int)) ∈ Wds := wdt4 198 (by decide +kernel) rfl
theorem wd4_199 : (Cond.methodLink RL (84 : Nat) yX8_why) ∈ Wds := wdt4 199 (by decide +kernel) rfl
theorem wd4_200 : (Cond.instanceMethod yX8_why) ∈ Wds := wdt4 200 (by decide +kernel) rfl
theorem wd4_201 : (Cond.selects RX8 yX8_why yX8_why) ∈ Wds := wdt4 201 (by decide +kernel) rfl
theorem wd4_202 : (Cond.code yX8_why cX8_why (4 : Nat) (Option.some FieldType.long)) ∈ Wds := wdt4 202 (by decide +kernel) rfl
theorem wd4_203 : (Cond.methodLink RX8 (177 : Nat) yX8_whyNot) ∈ Wds := wdt4 203 (by decide +kernel) rfl
theorem wd4_205 : (Cond.instanceMethod yX8_whyNot) ∈ Wds := wdt4 205 (by decide +kernel) rfl
theorem wd4_206 : (Cond.code yX8_whyNot cX8_whyNot (4 : Nat) (Option.some FieldType.long)) ∈ Wds := wdt4 206 (by decide +kernel) rfl
theorem wd4_207 : (Cond.methodLink RX8 (171 : Nat) yX8_fault) ∈ Wds := wdt4 207 (by decide +kernel) rfl
theorem wd4_209 : (Cond.instanceMethod yX8_fault) ∈ Wds := wdt4 209 (by decide +kernel) rfl
theorem wd4_210 : (Cond.code yX8_fault cX8_fault (6 : Nat) (Option.some FieldType.int)) ∈ Wds := wdt4 210 (by decide +kernel) rfl
theorem wd4_211 : (Cond.methodLink RX8 (168 : Nat) yX8_room) ∈ Wds := wdt4 211 (by decide +kernel) rfl
theorem wd4_213 : (Cond.instanceMethod yX8_room) ∈ Wds := wdt4 213 (by decide +kernel) rfl
theorem wd4_214 : (Cond.code yX8_room cX8_room (2 : Nat) (Option.some FieldType.int)) ∈ Wds := wdt4 214 (by decide +kernel) rfl
theorem wd4_215 : (Cond.constantLong RX8 (175 : Nat) (-9000000000000000005 : Int64)) ∈ Wds := wdt4 215 (by decide +kernel) rfl
theorem wd4_216 : (Cond.methodLink RL (88 : Nat) yX8_money) ∈ Wds := wdt4 216 (by decide +kernel) rfl
theorem wd4_217 : (Cond.instanceMethod yX8_money) ∈ Wds := wdt4 217 (by decide +kernel) rfl
theorem wd4_218 : (Cond.selects RX8 yX8_money yX8_money) ∈ Wds := wdt4 218 (by decide +kernel) rfl
theorem wd4_219 : (Cond.code yX8_money cX8_money (3 : Nat) (Option.some FieldType.long)) ∈ Wds := wdt4 219 (by decide +kernel) rfl
theorem wd4_220 : (Cond.methodLink RX8 (184 : Nat) yX8_moneyIn) ∈ Wds := wdt4 220 (by decide +kernel) rfl
theorem wd4_222 : (Cond.instanceMethod yX8_moneyIn) ∈ Wds := wdt4 222 (by decide +kernel) rfl
theorem wd4_223 : (Cond.code yX8_moneyIn cX8_moneyIn (6 : Nat) (Option.some FieldType.long)) ∈ Wds := wdt4 223 (by decide +kernel) rfl
theorem wd4_224 : (Cond.methodLink RX8 (180 : Nat) yX8_moneyOf) ∈ Wds := wdt4 224 (by decide +kernel) rfl
theorem wd4_226 : (Cond.instanceMethod yX8_moneyOf) ∈ Wds := wdt4 226 (by decide +kernel) rfl
theorem wd4_227 : (Cond.code yX8_moneyOf cX8_moneyOf (4 : Nat) (Option.some FieldType.long)) ∈ Wds := wdt4 227 (by decide +kernel) rfl
theorem wd4_228 : (Cond.methodLink RL (92 : Nat) yX8_worst) ∈ Wds := wdt4 228 (by decide +kernel) rfl
theorem wd4_229 : (Cond.instanceMethod yX8_worst) ∈ Wds := wdt4 229 (by decide +kernel) rfl
theorem wd4_230 : (Cond.selects RX8 yX8_worst yX8_worst) ∈ Wds := wdt4 230 (by decide +kernel) rfl
theorem wd4_231 : (Cond.code yX8_worst cX8_worst (9 : Nat) (Option.some FieldType.long)) ∈ Wds := wdt4 231 (by decide +kernel) rfl
theorem wd4_232 : (Cond.methodLink RX8 (190 : Nat) yX8_areWorlds) ∈ Wds := wdt4 232 (by decide +kernel) rfl
theorem wd4_233 : (Cond.static yX8_areWorlds) ∈ Wds := wdt4 233 (by decide +kernel) rfl
theorem wd4_234 : (Cond.code yX8_areWorlds cX8_areWorlds (1 : Nat) (Option.some FieldType.boolean)) ∈ Wds := wdt4 234 (by decide +kernel) rfl
theorem wd4_235 : (Cond.constantLong RX8 (188 : Nat) (15 : Int64)) ∈ Wds := wdt4 235 (by decide +kernel) rfl
theorem wd4_236 : (Cond.methodLink RL (96 : Nat) yX8_best) ∈ Wds := wdt4 236 (by decide +kernel) rfl
theorem wd4_237 : (Cond.instanceMethod yX8_best) ∈ Wds := wdt4 237 (by decide +kernel) rfl
theorem wd4_238 : (Cond.selects RX8 yX8_best yX8_best) ∈ Wds := wdt4 238 (by decide +kernel) rfl
theorem wd4_239 : (Cond.code yX8_best cX8_best (6 : Nat) (Option.some FieldType.long)) ∈ Wds := wdt4 239 (by decide +kernel) rfl
theorem wd5_0 : (Cond.methodLink RX8 (207 : Nat) yX8_solve) ∈ Wds := wdt5 0 (by decide +kernel) rfl
theorem wd5_2 : (Cond.instanceMethod yX8_solve) ∈ Wds := wdt5 2 (by decide +kernel) rfl
theorem wd5_3 : (Cond.code yX8_solve cX8_solve (12 : Nat) (Option.none : Option FieldType)) ∈ Wds := wdt5 3 (by decide +kernel) rfl
theorem wd5_4 : (Cond.constantLong RX8 (193 : Nat) (-8000000000000000000 : Int64)) ∈ Wds := wdt5 4 (by decide +kernel) rfl
theorem wd5_5 : (Cond.methodLink RX8 (199 : Nat) yX8_with) ∈ Wds := wdt5 5 (by decide +kernel) rfl
theorem wd5_7 : (Cond.instanceMethod yX8_with) ∈ Wds := wdt5 7 (by decide +kernel) rfl
theorem wd5_8 : (Cond.code yX8_with cX8_with (7 : Nat) (Option.some FieldType.long)) ∈ Wds := wdt5 8 (by decide +kernel) rfl
theorem wd5_9 : (Cond.methodLink RX8 (195 : Nat) yX8_moneyTogether) ∈ Wds := wdt5 9 (by decide +kernel) rfl
theorem wd5_11 : (Cond.instanceMethod yX8_moneyTogether) ∈ Wds := wdt5 11 (by decide +kernel) rfl
theorem wd5_12 : (Cond.code yX8_moneyTogether cX8_moneyTogether (8 : Nat) (Option.some FieldType.long)) ∈ Wds := wdt5 12 (by decide +kernel) rfl
theorem wd5_13 : (Cond.constantLong RX8 (203 : Nat) (1000000000 : Int64)) ∈ Wds := wdt5 13 (by decide +kernel) rfl
theorem wd5_14 : (Cond.constantLong RX8 (205 : Nat) (1000000001 : Int64)) ∈ Wds := wdt5 14 (by decide +kernel) rfl
theorem wd5_15 : (Cond.methodLink RL (100 : Nat) yX8_many) ∈ Wds := wdt5 15 (by decide +kernel) rfl
theorem wd5_16 : (Cond.instanceMethod yX8_many) ∈ Wds := wdt5 16 (by decide +kernel) rfl
theorem wd5_17 : (Cond.selects RX8 yX8_many yX8_many) ∈ Wds := wdt5 17 (by decide +kernel) rfl
theorem wd5_18 : (Cond.code yX8_many cX8_many (5 : Nat) (Option.some FieldType.long)) ∈ Wds := wdt5 18 (by decide +kernel) rfl
theorem wd5_19 : (Cond.methodLink RL (105 : Nat) yX8_value) ∈ Wds := wdt5 19 (by decide +kernel) rfl
theorem wd5_20 : (Cond.instanceMethod yX8_value) ∈ Wds := wdt5 20 (by decide +kernel) rfl
theorem wd5_21 : (Cond.selects RX8 yX8_value yX8_value) ∈ Wds := wdt5 21 (by decide +kernel) rfl
theorem wd5_22 : (Cond.code yX8_value cX8_value (7 : Nat) (Option.some FieldType.long)) ∈ Wds := wdt5 22 (by decide +kernel) rfl
theorem wd5_23 : (Cond.methodLink RL (109 : Nat) yX8_bid) ∈ Wds := wdt5 23 (by decide +kernel) rfl
theorem wd5_24 : (Cond.instanceMethod yX8_bid) ∈ Wds := wdt5 24 (by decide +kernel) rfl
theorem wd5_25 : (Cond.selects RX8 yX8_bid yX8_bid) ∈ Wds := wdt5 25 (by decide +kernel) rfl
theorem wd5_26 : (Cond.code yX8_bid cX8_bid (5 : Nat) (Option.some FieldType.long)) ∈ Wds := wdt5 26 (by decide +kernel) rfl
theorem wd5_27 : (Cond.constantLong RX8 (211 : Nat) (-20 : Int64)) ∈ Wds := wdt5 27 (by decide +kernel) rfl
theorem wd5_28 : (Cond.constantLong RX8 (213 : Nat) (-10000 : Int64)) ∈ Wds := wdt5 28 (by decide +kernel) rfl
theorem wd5_29 : (Cond.constantLong RX8 (215 : Nat) (10000 : Int64)) ∈ Wds := wdt5 29 (by decide +kernel) rfl
theorem wd5_30 : (Cond.constantLong RX8 (217 : Nat) (-9000000000000000003 : Int64)) ∈ Wds := wdt5 30 (by decide +kernel) rfl
theorem wd5_31 : (Cond.methodLink RL (114 : Nat) yX8_unbid) ∈ Wds := wdt5 31 (by decide +kernel) rfl
theorem wd5_32 : (Cond.instanceMethod yX8_unbid) ∈ Wds := wdt5 32 (by decide +kernel) rfl
theorem wd5_33 : (Cond.selects RX8 yX8_unbid yX8_unbid) ∈ Wds := wdt5 33 (by decide +kernel) rfl
theorem wd5_34 : (Cond.code yX8_unbid cX8_unbid (1 : Nat) (Option.some FieldType.long)) ∈ Wds := wdt5 34 (by decide +kernel) rfl
theorem wd5_35 : (Cond.methodLink RL (118 : Nat) yX8_taken) ∈ Wds := wdt5 35 (by decide +kernel) rfl
theorem wd5_36 : (Cond.instanceMethod yX8_taken) ∈ Wds := wdt5 36 (by decide +kernel) rfl
theorem wd5_37 : (Cond.selects RX8 yX8_taken yX8_taken) ∈ Wds := wdt5 37 (by decide +kernel) rfl
theorem wd5_38 : (Cond.code yX8_taken cX8_taken (3 : Nat) (Option.some FieldType.long)) ∈ Wds := wdt5 38 (by decide +kernel) rfl
theorem wd5_39 : (Cond.methodLink RX8 (219 : Nat) yX8_isTaken) ∈ Wds := wdt5 39 (by decide +kernel) rfl
theorem wd5_41 : (Cond.instanceMethod yX8_isTaken) ∈ Wds := wdt5 41 (by decide +kernel) rfl
theorem wd5_42 : (Cond.code yX8_isTaken cX8_isTaken (6 : Nat) (Option.some FieldType.boolean)) ∈ Wds := wdt5 42 (by decide +kernel) rfl
theorem wd5_43 : (Cond.methodLink RL (122 : Nat) yX8_wanted) ∈ Wds := wdt5 43 (by decide +kernel) rfl
theorem wd5_44 : (Cond.instanceMethod yX8_wanted) ∈ Wds := wdt5 44 (by decide +kernel) rfl
theorem wd5_45 : (Cond.selects RX8 yX8_wanted yX8_wanted) ∈ Wds := wdt5 45 (by decide +kernel) rfl
theorem wd5_46 : (Cond.code yX8_wanted cX8_wanted (3 : Nat) (Option.some FieldType.long)) ∈ Wds := wdt5 46 (by decide +kernel) rfl
theorem wd5_47 : (Cond.methodLink RX8 (223 : Nat) yX8_wantedOf) ∈ Wds := wdt5 47 (by decide +kernel) rfl
theorem wd5_49 : (Cond.instanceMethod yX8_wantedOf) ∈ Wds := wdt5 49 (by decide +kernel) rfl
theorem wd5_50 : (Cond.code yX8_wantedOf cX8_wantedOf (5 : Nat) (Option.some FieldType.int)) ∈ Wds := wdt5 50 (by decide +kernel) rfl
theorem wd5_51 : (Cond.methodLink RL (126 : Nat) yX8_fill) ∈ Wds := wdt5 51 (by decide +kernel) rfl
theorem wd5_52 : (Cond.instanceMethod yX8_fill) ∈ Wds := wdt5 52 (by decide +kernel) rfl
theorem wd5_53 : (Cond.selects RX8 yX8_fill yX8_fill) ∈ Wds := wdt5 53 (by decide +kernel) rfl
theorem wd5_54 : (Cond.code yX8_fill cX8_fill (9 : Nat) (Option.some FieldType.long)) ∈ Wds := wdt5 54 (by decide +kernel) rfl
theorem wd5_55 : (Cond.methodLink RX8 (226 : Nat) yX8_between) ∈ Wds := wdt5 55 (by decide +kernel) rfl
theorem wd5_56 : (Cond.static yX8_between) ∈ Wds := wdt5 56 (by decide +kernel) rfl
theorem wd5_57 : (Cond.code yX8_between cX8_between (3 : Nat) (Option.some FieldType.int)) ∈ Wds := wdt5 57 (by decide +kernel) rfl
theorem wd5_58 : (Cond.methodLink RL (130 : Nat) yX8_meter) ∈ Wds := wdt5 58 (by decide +kernel) rfl
theorem wd5_59 : (Cond.instanceMethod yX8_meter) ∈ Wds := wdt5 59 (by decide +kernel) rfl
theorem wd5_60 : (Cond.selects RX8 yX8_meter yX8_meter) ∈ Wds := wdt5 60 (by decide +kernel) rfl
theorem wd5_61 : (Cond.code yX8_meter cX8_meter (5 : Nat) (Option.some FieldType.long)) ∈ Wds := wdt5 61 (by decide +kernel) rfl
theorem wd5_62 : (Cond.constantLong RX8 (230 : Nat) (-1001 : Int64)) ∈ Wds := wdt5 62 (by decide +kernel) rfl
theorem wd5_63 : (Cond.constantLong RX8 (232 : Nat) (1000 : Int64)) ∈ Wds := wdt5 63 (by decide +kernel) rfl
theorem wd5_64 : (Cond.methodLink RL (134 : Nat) yX8_counts) ∈ Wds := wdt5 64 (by decide +kernel) rfl
theorem wd5_65 : (Cond.instanceMethod yX8_counts) ∈ Wds := wdt5 65 (by decide +kernel) rfl
theorem wd5_66 : (Cond.selects RX8 yX8_counts yX8_counts) ∈ Wds := wdt5 66 (by decide +kernel) rfl
theorem wd5_67 : (Cond.code yX8_counts cX8_counts (4 : Nat) (Option.some FieldType.long)) ∈ Wds := wdt5 67 (by decide +kernel) rfl
theorem wd5_68 : (Cond.methodLink RX8 (234 : Nat) yX8_nearest) ∈ Wds := wdt5 68 (by decide +kernel) rfl
theorem wd5_70 : (Cond.instanceMethod yX8_nearest) ∈ Wds := wdt5 70 (by decide +kernel) rfl
theorem wd5_71 : (Cond.code yX8_nearest cX8_nearest (4 : Nat) (Option.some FieldType.int)) ∈ Wds := wdt5 71 (by decide +kernel) rfl
theorem wd5_72 : (Cond.methodLink RX8 (237 : Nat) yX8_cut) ∈ Wds := wdt5 72 (by decide +kernel) rfl
theorem wd5_73 : (Cond.static yX8_cut) ∈ Wds := wdt5 73 (by decide +kernel) rfl
theorem wd5_74 : (Cond.code yX8_cut cX8_cut (3 : Nat) (Option.some FieldType.int)) ∈ Wds := wdt5 74 (by decide +kernel) rfl
theorem wd5_75 : (Cond.methodLink RL (138 : Nat) yX8_live) ∈ Wds := wdt5 75 (by decide +kernel) rfl
theorem wd5_76 : (Cond.instanceMethod yX8_live) ∈ Wds := wdt5 76 (by decide +kernel) rfl
theorem wd5_77 : (Cond.selects RX8 yX8_live yX8_live) ∈ Wds := wdt5 77 (by decide +kernel) rfl
theorem wd5_78 : (Cond.code yX8_live cX8_live (5 : Nat) (Option.some FieldType.long)) ∈ Wds := wdt5 78 (by decide +kernel) rfl
theorem wd5_79 : (Cond.methodLink RL (142 : Nat) yX8_row) ∈ Wds := wdt5 79 (by decide +kernel) rfl
theorem wd5_80 : (Cond.instanceMethod yX8_row) ∈ Wds := wdt5 80 (by decide +kernel) rfl
theorem wd5_81 : (Cond.selects RX8 yX8_row yX8_row) ∈ Wds := wdt5 81 (by decide +kernel) rfl
theorem wd5_82 : (Cond.code yX8_row cX8_row (3 : Nat) (Option.some FieldType.long)) ∈ Wds := wdt5 82 (by decide +kernel) rfl
theorem wd5_83 : (Cond.methodLink RL (146 : Nat) yX8_forge) ∈ Wds := wdt5 83 (by decide +kernel) rfl
theorem wd5_84 : (Cond.instanceMethod yX8_forge) ∈ Wds := wdt5 84 (by decide +kernel) rfl
theorem wd5_85 : (Cond.selects RX8 yX8_forge yX8_forge) ∈ Wds := wdt5 85 (by decide +kernel) rfl
theorem wd5_86 : (Cond.code yX8_forge cX8_forge (6 : Nat) (Option.some FieldType.long)) ∈ Wds := wdt5 86 (by decide +kernel) rfl
theorem wd5_87 : (Cond.methodLink RL (150 : Nat) yX8_check) ∈ Wds := wdt5 87 (by decide +kernel) rfl
theorem wd5_88 : (Cond.instanceMethod yX8_check) ∈ Wds := wdt5 88 (by decide +kernel) rfl
theorem wd5_89 : (Cond.selects RX8 yX8_check yX8_check) ∈ Wds := wdt5 89 (by decide +kernel) rfl
theorem wd5_90 : (Cond.code yX8_check cX8_check (5 : Nat) (Option.some FieldType.long)) ∈ Wds := wdt5 90 (by decide +kernel) rfl
theorem wd5_91 : (Cond.methodLink RX8 (243 : Nat) yX8_ahead) ∈ Wds := wdt5 91 (by decide +kernel) rfl
theorem wd5_93 : (Cond.instanceMethod yX8_ahead) ∈ Wds := wdt5 93 (by decide +kernel) rfl
theorem wd5_94 : (Cond.code yX8_ahead cX8_ahead (6 : Nat) (Option.some FieldType.long)) ∈ Wds := wdt5 94 (by decide +kernel) rfl
theorem wd5_95 : (Cond.methodLink RL (154 : Nat) yX8_shut) ∈ Wds := wdt5 95 (by decide +kernel) rfl
theorem wd5_96 : (Cond.instanceMethod yX8_shut) ∈ Wds := wdt5 96 (by decide +kernel) rfl
theorem wd5_97 : (Cond.selects RX8 yX8_shut yX8_shut) ∈ Wds := wdt5 97 (by decide +kernel) rfl
theorem wd5_98 : (Cond.code yX8_shut cX8_shut (3 : Nat) (Option.some FieldType.long)) ∈ Wds := wdt5 98 (by decide +kernel) rfl
theorem wd5_99 : (Cond.methodLink RL (158 : Nat) yX8_warrant) ∈ Wds := wdt5 99 (by decide +kernel) rfl
theorem wd5_100 : (Cond.instanceMethod yX8_warrant) ∈ Wds := wdt5 100 (by decide +kernel) rfl
theorem wd5_101 : (Cond.selects RX8 yX8_warrant yX8_warrant) ∈ Wds := wdt5 101 (by decide +kernel) rfl
theorem wd5_102 : (Cond.code yX8_warrant cX8_warrant (5 : Nat) (Option.some FieldType.long)) ∈ Wds := wdt5 102 (by decide +kernel) rfl
theorem wd5_103 : (Cond.constantLong RX8 (246 : Nat) (100000 : Int64)) ∈ Wds := wdt5 103 (by decide +kernel) rfl
theorem wd5_104 : (Cond.methodLink RL (162 : Nat) yX8_voided) ∈ Wds := wdt5 104 (by decide +kernel) rfl
theorem wd5_105 : (Cond.instanceMethod yX8_voided) ∈ Wds := wdt5 105 (by decide +kernel) rfl
theorem wd5_106 : (Cond.selects RX8 yX8_voided yX8_voided) ∈ Wds := wdt5 106 (by decide +kernel) rfl
theorem wd5_107 : (Cond.code yX8_voided cX8_voided (9 : Nat) (Option.some FieldType.long)) ∈ Wds := wdt5 107 (by decide +kernel) rfl
theorem wd5_108 : (Cond.methodLink RL (166 : Nat) yX8_count) ∈ Wds := wdt5 108 (by decide +kernel) rfl
theorem wd5_109 : (Cond.instanceMethod yX8_count) ∈ Wds := wdt5 109 (by decide +kernel) rfl
theorem wd5_110 : (Cond.selects RX8 yX8_count yX8_count) ∈ Wds := wdt5 110 (by decide +kernel) rfl
theorem wd5_111 : (Cond.code yX8_count cX8_count (5 : Nat) (Option.some FieldType.long)) ∈ Wds := wdt5 111 (by decide +kernel) rfl
theorem wdp_0 : Cond.selects RX7 yX7_refusal yX7_refusal ∈ Wds := wdt0 0 (by decide +kernel) rfl
theorem wdp_1 : Cond.selects RX7 yX7_isStepNow yX7_isStepNow ∈ Wds := wdt0 1 (by decide +kernel) rfl
theorem wdp_2 : Cond.selects RX3 yX3_faultAt yX3_faultAt ∈ Wds := wdt0 2 (by decide +kernel) rfl
theorem wdp_3 : Cond.selects RX5 yX5_openStep yX5_openStep ∈ Wds := wdt0 3 (by decide +kernel) rfl
theorem wdp_4 : Cond.selects RX5 yX5_sumOfPrices yX5_sumOfPrices ∈ Wds := wdt0 4 (by decide +kernel) rfl
theorem wdp_5 : Cond.selects RX5 yX5_greatest yX5_greatest ∈ Wds := wdt0 5 (by decide +kernel) rfl
theorem wdp_6 : Cond.selects RX5 yX5_lastMove yX5_lastMove ∈ Wds := wdt0 6 (by decide +kernel) rfl
theorem wdp_7 : Cond.selects RX5 yX5_firstMove yX5_firstMove ∈ Wds := wdt0 7 (by decide +kernel) rfl
theorem wdp_8 : Cond.selects RX5 yX5_worthThrough yX5_worthThrough ∈ Wds := wdt0 8 (by decide +kernel) rfl
theorem wdp_9 : Cond.selects RX5 yX5_leastBest yX5_leastBest ∈ Wds := wdt0 9 (by decide +kernel) rfl
theorem wdp_10 : Cond.selects RX5 yX5_spreadWays yX5_spreadWays ∈ Wds := wdt0 10 (by decide +kernel) rfl
theorem wdp_11 : Cond.selects RX4 yX4_nearestAhead yX4_nearestAhead ∈ Wds := wdt0 11 (by decide +kernel) rfl
theorem wdp_12 : Cond.selects RX4 yX4_nearestBehind yX4_nearestBehind ∈ Wds := wdt0 12 (by decide +kernel) rfl
theorem wdp_13 : Cond.selects RX7 yX7_storesThere yX7_storesThere ∈ Wds := wdt0 13 (by decide +kernel) rfl
theorem wdp_14 : Cond.selects RX7 yX7_worldsThere yX7_worldsThere ∈ Wds := wdt0 14 (by decide +kernel) rfl
theorem wdp_15 : Cond.selects RX8 yX8_priceOf yX8_priceOf ∈ Wds := wdt0 15 (by decide +kernel) rfl
theorem wdp_16 : Cond.selects RX8 yX8_floorOf yX8_floorOf ∈ Wds := wdt0 16 (by decide +kernel) rfl
theorem wdp_17 : Cond.selects RX8 yX8_asked yX8_asked ∈ Wds := wdt0 17 (by decide +kernel) rfl
theorem wdp_18 : Cond.selects RX8 yX8_topOf yX8_topOf ∈ Wds := wdt0 18 (by decide +kernel) rfl
theorem wdp_19 : Cond.selects RX8 yX8_isOld yX8_isOld ∈ Wds := wdt0 19 (by decide +kernel) rfl
theorem wdp_20 : Cond.selects RX8 yX8_in yX8_in ∈ Wds := wdt0 20 (by decide +kernel) rfl
theorem wdp_21 : Cond.selects RX8 yX8_isQuick yX8_isQuick ∈ Wds := wdt0 21 (by decide +kernel) rfl
theorem wdp_22 : Cond.selects RX8 yX8_out yX8_out ∈ Wds := wdt0 22 (by decide +kernel) rfl
theorem wdp_23 : Cond.selects RX8 yX8_loss yX8_loss ∈ Wds := wdt0 23 (by decide +kernel) rfl
theorem wdp_24 : Cond.selects RX8 yX8_isStep yX8_isStep ∈ Wds := wdt0 24 (by decide +kernel) rfl
theorem wdp_25 : Cond.selects RX8 yX8_behindOf yX8_behindOf ∈ Wds := wdt0 25 (by decide +kernel) rfl
theorem wdp_26 : Cond.selects RX8 yX8_whyNot yX8_whyNot ∈ Wds := wdt0 26 (by decide +kernel) rfl
theorem wdp_27 : Cond.selects RX8 yX8_fault yX8_fault ∈ Wds := wdt0 27 (by decide +kernel) rfl
theorem wdp_28 : Cond.selects RX8 yX8_room yX8_room ∈ Wds := wdt0 28 (by decide +kernel) rfl
theorem wdp_29 : Cond.selects RX8 yX8_moneyIn yX8_moneyIn ∈ Wds := wdt0 29 (by decide +kernel) rfl
theorem wdp_30 : Cond.selects RX8 yX8_moneyOf yX8_moneyOf ∈ Wds := wdt0 30 (by decide +kernel) rfl
theorem wdp_31 : Cond.selects RX8 yX8_solve yX8_solve ∈ Wds := wdt0 31 (by decide +kernel) rfl
theorem wdp_32 : Cond.selects RX8 yX8_with yX8_with ∈ Wds := wdt0 32 (by decide +kernel) rfl
theorem wdp_33 : Cond.selects RX8 yX8_moneyTogether yX8_moneyTogether ∈ Wds := wdt0 33 (by decide +kernel) rfl
theorem wdp_34 : Cond.selects RX8 yX8_isTaken yX8_isTaken ∈ Wds := wdt0 34 (by decide +kernel) rfl
theorem wdp_35 : Cond.selects RX8 yX8_wantedOf yX8_wantedOf ∈ Wds := wdt0 35 (by decide +kernel) rfl
theorem wdp_36 : Cond.selects RX8 yX8_nearest yX8_nearest ∈ Wds := wdt0 36 (by decide +kernel) rfl
theorem wdp_37 : Cond.selects RX8 yX8_ahead yX8_ahead ∈ Wds := wdt0 37 (by decide +kernel) rfl
end
section
theorem dX0_init_0 : decode cX0_init 0 = .ok (.aload_n 0, 1) := by decide +kernel
theorem dX0_init_1 : decode cX0_init 1 = .ok (.invokespecial 3, 3) := by decide +kernel
theorem dX0_init_4 : decode cX0_init 4 = .ok (.aload_n 0, 1) := by decide +kernel
theorem dX0_init_5 : decode cX0_init 5 = .ok (.bipush 36, 2) := by decide +kernel
theorem dX0_init_7 : decode cX0_init 7 = .ok (.newarray .int, 2) := by decide +kernel
theorem dX0_init_9 : decode cX0_init 9 = .ok (.putfield 9, 3) := by decide +kernel
theorem dX0_init_12 : decode cX0_init 12 = .ok (.return_, 1) := by decide +kernel
theorem dX0_renew_0 : decode cX0_renew 0 = .ok (.aload_n 0, 1) := by decide +kernel
theorem dX0_renew_1 : decode cX0_renew 1 = .ok (.iconst 1, 1) := by decide +kernel
theorem dX0_renew_2 : decode cX0_renew 2 = .ok (.putfield 15, 3) := by decide +kernel
theorem dX0_renew_5 : decode cX0_renew 5 = .ok (.aload_n 0, 1) := by decide +kernel
theorem dX0_renew_6 : decode cX0_renew 6 = .ok (.iload_n 1, 1) := by decide +kernel
theorem dX0_renew_7 : decode cX0_renew 7 = .ok (.putfield 19, 3) := by decide +kernel
theorem dX0_renew_10 : decode cX0_renew 10 = .ok (.aload_n 0, 1) := by decide +kernel
theorem dX0_renew_11 : decode cX0_renew 11 = .ok (.iload_n 2, 1) := by decide +kernel
theorem dX0_renew_12 : decode cX0_renew 12 = .ok (.putfield 23, 3) := by decide +kernel
theorem dX0_renew_15 : decode cX0_renew 15 = .ok (.aload_n 0, 1) := by decide +kernel
theorem dX0_renew_16 : decode cX0_renew 16 = .ok (.aload_n 0, 1) := by decide +kernel
theorem dX0_renew_17 : decode cX0_renew 17 = .ok (.iconst 4, 1) := by decide +kernel
theorem dX0_renew_18 : decode cX0_renew 18 = .ok (.invokevirtual 26, 3) := by decide +kernel
theorem dX0_renew_21 : decode cX0_renew 21 = .ok (.ifCond .eq 13, 3) := by decide +kernel
theorem dX0_renew_24 : decode cX0_renew 24 = .ok (.aload_n 0, 1) := by decide +kernel
theorem dX0_renew_25 : decode cX0_renew 25 = .ok (.getfield 23, 3) := by decide +kernel
theorem dX0_renew_28 : decode cX0_renew 28 = .ok (.bipush 10, 2) := by decide +kernel
theorem dX0_renew_30 : decode cX0_renew 30 = .ok (.idiv, 1) := by decide +kernel
theorem dX0_renew_31 : decode cX0_renew 31 = .ok (.goto 4, 3) := by decide +kernel
theorem dX0_renew_34 : decode cX0_renew 34 = .ok (.iconst 0, 1) := by decide +kernel
theorem dX0_renew_35 : decode cX0_renew 35 = .ok (.putfield 30, 3) := by decide +kernel
theorem dX0_renew_38 : decode cX0_renew 38 = .ok (.aload_n 0, 1) := by decide +kernel
theorem dX0_renew_39 : decode cX0_renew 39 = .ok (.aload_n 0, 1) := by decide +kernel
theorem dX0_renew_40 : decode cX0_renew 40 = .ok (.iconst 3, 1) := by decide +kernel
theorem dX0_renew_41 : decode cX0_renew 41 = .ok (.invokevirtual 26, 3) := by decide +kernel
theorem dX0_renew_44 : decode cX0_renew 44 = .ok (.ifCond .eq 14, 3) := by decide +kernel
theorem dX0_renew_47 : decode cX0_renew 47 = .ok (.aload_n 0, 1) := by decide +kernel
theorem dX0_renew_48 : decode cX0_renew 48 = .ok (.getfield 23, 3) := by decide +kernel
theorem dX0_renew_51 : decode cX0_renew 51 = .ok (.iconst 4, 1) := by decide +kernel
theorem dX0_renew_52 : decode cX0_renew 52 = .ok (.imul, 1) := by decide +kernel
theorem dX0_renew_53 : decode cX0_renew 53 = .ok (.iconst 5, 1) := by decide +kernel
theorem dX0_renew_54 : decode cX0_renew 54 = .ok (.idiv, 1) := by decide +kernel
theorem dX0_renew_55 : decode cX0_renew 55 = .ok (.goto 7, 3) := by decide +kernel
theorem dX0_renew_58 : decode cX0_renew 58 = .ok (.aload_n 0, 1) := by decide +kernel
theorem dX0_renew_59 : decode cX0_renew 59 = .ok (.getfield 23, 3) := by decide +kernel
theorem dX0_renew_62 : decode cX0_renew 62 = .ok (.putfield 33, 3) := by decide +kernel
theorem dX0_renew_65 : decode cX0_renew 65 = .ok (.aload_n 0, 1) := by decide +kernel
theorem dX0_renew_66 : decode cX0_renew 66 = .ok (.aload_n 0, 1) := by decide +kernel
theorem dX0_renew_67 : decode cX0_renew 67 = .ok (.getfield 30, 3) := by decide +kernel
theorem dX0_renew_70 : decode cX0_renew 70 = .ok (.putfield 36, 3) := by decide +kernel
theorem dX0_renew_73 : decode cX0_renew 73 = .ok (.aload_n 0, 1) := by decide +kernel
theorem dX0_renew_74 : decode cX0_renew 74 = .ok (.iconst 0, 1) := by decide +kernel
theorem dX0_renew_75 : decode cX0_renew 75 = .ok (.putfield 39, 3) := by decide +kernel
theorem dX0_renew_78 : decode cX0_renew 78 = .ok (.aload_n 0, 1) := by decide +kernel
theorem dX0_renew_79 : decode cX0_renew 79 = .ok (.ldc 42, 2) := by decide +kernel
theorem dX0_renew_81 : decode cX0_renew 81 = .ok (.putfield 43, 3) := by decide +kernel
theorem dX0_renew_84 : decode cX0_renew 84 = .ok (.aload_n 0, 1) := by decide +kernel
theorem dX0_renew_85 : decode cX0_renew 85 = .ok (.invokevirtual 46, 3) := by decide +kernel
theorem dX0_renew_88 : decode cX0_renew 88 = .ok (.return_, 1) := by decide +kernel
theorem dX0_setRates_0 : decode cX0_setRates 0 = .ok (.aload_n 0, 1) := by decide +kernel
theorem dX0_setRates_1 : decode cX0_setRates 1 = .ok (.iconst 1, 1) := by decide +kernel
theorem dX0_setRates_2 : decode cX0_setRates 2 = .ok (.invokevirtual 26, 3) := by decide +kernel
theorem dX0_setRates_5 : decode cX0_setRates 5 = .ok (.ifCond .eq 7, 3) := by decide +kernel
theorem dX0_setRates_8 : decode cX0_setRates 8 = .ok (.iconst 2, 1) := by decide +kernel
theorem dX0_setRates_9 : decode cX0_setRates 9 = .ok (.goto 4, 3) := by decide +kernel
theorem dX0_setRates_12 : decode cX0_setRates 12 = .ok (.iconst 1, 1) := by decide +kernel
theorem dX0_setRates_13 : decode cX0_setRates 13 = .ok (.istore_n 3, 1) := by decide +kernel
theorem dX0_setRates_14 : decode cX0_setRates 14 = .ok (.aload_n 0, 1) := by decide +kernel
theorem dX0_setRates_15 : decode cX0_setRates 15 = .ok (.iload_n 3, 1) := by decide +kernel
theorem dX0_setRates_16 : decode cX0_setRates 16 = .ok (.iload_n 1, 1) := by decide +kernel
theorem dX0_setRates_17 : decode cX0_setRates 17 = .ok (.imul, 1) := by decide +kernel
theorem dX0_setRates_18 : decode cX0_setRates 18 = .ok (.putfield 49, 3) := by decide +kernel
theorem dX0_setRates_21 : decode cX0_setRates 21 = .ok (.aload_n 0, 1) := by decide +kernel
theorem dX0_setRates_22 : decode cX0_setRates 22 = .ok (.iload_n 3, 1) := by decide +kernel
theorem dX0_setRates_23 : decode cX0_setRates 23 = .ok (.iload_n 2, 1) := by decide +kernel
theorem dX0_setRates_24 : decode cX0_setRates 24 = .ok (.imul, 1) := by decide +kernel
theorem dX0_setRates_25 : decode cX0_setRates 25 = .ok (.putfield 52, 3) := by decide +kernel
theorem dX0_setRates_28 : decode cX0_setRates 28 = .ok (.return_, 1) := by decide +kernel
theorem dX0_setLosses_0 : decode cX0_setLosses 0 = .ok (.aload_n 0, 1) := by decide +kernel
theorem dX0_setLosses_1 : decode cX0_setLosses 1 = .ok (.aload_n 0, 1) := by decide +kernel
theorem dX0_setLosses_2 : decode cX0_setLosses 2 = .ok (.iconst 2, 1) := by decide +kernel
theorem dX0_setLosses_3 : decode cX0_setLosses 3 = .ok (.invokevirtual 26, 3) := by decide +kernel
theorem dX0_setLosses_6 : decode cX0_setLosses 6 = .ok (.ifCond .eq 9, 3) := by decide +kernel
theorem dX0_setLosses_9 : decode cX0_setLosses 9 = .ok (.iload_n 1, 1) := by decide +kernel
theorem dX0_setLosses_10 : decode cX0_setLosses 10 = .ok (.iconst 2, 1) := by decide +kernel
theorem dX0_setLosses_11 : decode cX0_setLosses 11 = .ok (.idiv, 1) := by decide +kernel
theorem dX0_setLosses_12 : decode cX0_setLosses 12 = .ok (.goto 4, 3) := by decide +kernel
theorem dX0_setLosses_15 : decode cX0_setLosses 15 = .ok (.iload_n 1, 1) := by decide +kernel
theorem dX0_setLosses_16 : decode cX0_setLosses 16 = .ok (.putfield 55, 3) := by decide +kernel
theorem dX0_setLosses_19 : decode cX0_setLosses 19 = .ok (.aload_n 0, 1) := by decide +kernel
theorem dX0_setLosses_20 : decode cX0_setLosses 20 = .ok (.iload_n 2, 1) := by decide +kernel
theorem dX0_setLosses_21 : decode cX0_setLosses 21 = .ok (.putfield 58, 3) := by decide +kernel
theorem dX0_setLosses_24 : decode cX0_setLosses 24 = .ok (.return_, 1) := by decide +kernel
theorem dX0_clearPlan_0 : decode cX0_clearPlan 0 = .ok (.aload_n 0, 1) := by decide +kernel
theorem dX0_clearPlan_1 : decode cX0_clearPlan 1 = .ok (.getfield 9, 3) := by decide +kernel
theorem dX0_clearPlan_4 : decode cX0_clearPlan 4 = .ok (.iconst 0, 1) := by decide +kernel
theorem dX0_clearPlan_5 : decode cX0_clearPlan 5 = .ok (.invokestatic 61, 3) := by decide +kernel
theorem dX0_clearPlan_8 : decode cX0_clearPlan 8 = .ok (.return_, 1) := by decide +kernel
theorem dX0_isA_0 : decode cX0_isA 0 = .ok (.iload_n 1, 1) := by decide +kernel
theorem dX0_isA_1 : decode cX0_isA 1 = .ok (.tableswitch 77 0 3 #[31, 33, 77, 55], 31) := by decide +kernel
theorem dX0_isA_32 : decode cX0_isA 32 = .ok (.iconst 1, 1) := by decide +kernel
theorem dX0_isA_33 : decode cX0_isA 33 = .ok (.ireturn, 1) := by decide +kernel
theorem dX0_isA_34 : decode cX0_isA 34 = .ok (.aload_n 0, 1) := by decide +kernel
theorem dX0_isA_35 : decode cX0_isA 35 = .ok (.getfield 19, 3) := by decide +kernel
theorem dX0_isA_38 : decode cX0_isA 38 = .ok (.iconst 1, 1) := by decide +kernel
theorem dX0_isA_39 : decode cX0_isA 39 = .ok (.if_icmp .eq 11, 3) := by decide +kernel
theorem dX0_isA_42 : decode cX0_isA 42 = .ok (.aload_n 0, 1) := by decide +kernel
theorem dX0_isA_43 : decode cX0_isA 43 = .ok (.getfield 19, 3) := by decide +kernel
theorem dX0_isA_46 : decode cX0_isA 46 = .ok (.iconst 2, 1) := by decide +kernel
theorem dX0_isA_47 : decode cX0_isA 47 = .ok (.if_icmp .ne 7, 3) := by decide +kernel
theorem dX0_isA_50 : decode cX0_isA 50 = .ok (.iconst 1, 1) := by decide +kernel
theorem dX0_isA_51 : decode cX0_isA 51 = .ok (.goto 4, 3) := by decide +kernel
theorem dX0_isA_54 : decode cX0_isA 54 = .ok (.iconst 0, 1) := by decide +kernel
theorem dX0_isA_55 : decode cX0_isA 55 = .ok (.ireturn, 1) := by decide +kernel
theorem dX0_isA_56 : decode cX0_isA 56 = .ok (.aload_n 0, 1) := by decide +kernel
theorem dX0_isA_57 : decode cX0_isA 57 = .ok (.getfield 19, 3) := by decide +kernel
theorem dX0_isA_60 : decode cX0_isA 60 = .ok (.iconst 3, 1) := by decide +kernel
theorem dX0_isA_61 : decode cX0_isA 61 = .ok (.if_icmp .eq 11, 3) := by decide +kernel
theorem dX0_isA_64 : decode cX0_isA 64 = .ok (.aload_n 0, 1) := by decide +kernel
theorem dX0_isA_65 : decode cX0_isA 65 = .ok (.getfield 19, 3) := by decide +kernel
theorem dX0_isA_68 : decode cX0_isA 68 = .ok (.iconst 4, 1) := by decide +kernel
theorem dX0_isA_69 : decode cX0_isA 69 = .ok (.if_icmp .ne 7, 3) := by decide +kernel
theorem dX0_isA_72 : decode cX0_isA 72 = .ok (.iconst 1, 1) := by decide +kernel
theorem dX0_isA_73 : decode cX0_isA 73 = .ok (.goto 4, 3) := by decide +kernel
theorem dX0_isA_76 : decode cX0_isA 76 = .ok (.iconst 0, 1) := by decide +kernel
theorem dX0_isA_77 : decode cX0_isA 77 = .ok (.ireturn, 1) := by decide +kernel
theorem dX0_isA_78 : decode cX0_isA 78 = .ok (.aload_n 0, 1) := by decide +kernel
theorem dX0_isA_79 : decode cX0_isA 79 = .ok (.getfield 19, 3) := by decide +kernel
theorem dX0_isA_82 : decode cX0_isA 82 = .ok (.iload_n 1, 1) := by decide +kernel
theorem dX0_isA_83 : decode cX0_isA 83 = .ok (.if_icmp .ne 7, 3) := by decide +kernel
theorem dX0_isA_86 : decode cX0_isA 86 = .ok (.iconst 1, 1) := by decide +kernel
theorem dX0_isA_87 : decode cX0_isA 87 = .ok (.goto 4, 3) := by decide +kernel
theorem dX0_isA_90 : decode cX0_isA 90 = .ok (.iconst 0, 1) := by decide +kernel
theorem dX0_isA_91 : decode cX0_isA 91 = .ok (.ireturn, 1) := by decide +kernel
theorem dX0_fact_0 : decode cX0_fact 0 = .ok (.iload_n 1, 1) := by decide +kernel
theorem dX0_fact_1 : decode cX0_fact 1 = .ok (.tableswitch 105 0 9 #[55, 60, 65, 70, 75, 80, 85, 90, 95, 100], 55) := by decide +kernel
theorem dX0_fact_56 : decode cX0_fact 56 = .ok (.aload_n 0, 1) := by decide +kernel
theorem dX0_fact_57 : decode cX0_fact 57 = .ok (.getfield 19, 3) := by decide +kernel
theorem dX0_fact_60 : decode cX0_fact 60 = .ok (.ireturn, 1) := by decide +kernel
theorem dX0_fact_61 : decode cX0_fact 61 = .ok (.aload_n 0, 1) := by decide +kernel
theorem dX0_fact_62 : decode cX0_fact 62 = .ok (.getfield 23, 3) := by decide +kernel
theorem dX0_fact_65 : decode cX0_fact 65 = .ok (.ireturn, 1) := by decide +kernel
theorem dX0_fact_66 : decode cX0_fact 66 = .ok (.aload_n 0, 1) := by decide +kernel
theorem dX0_fact_67 : decode cX0_fact 67 = .ok (.getfield 36, 3) := by decide +kernel
theorem dX0_fact_70 : decode cX0_fact 70 = .ok (.ireturn, 1) := by decide +kernel
theorem dX0_fact_71 : decode cX0_fact 71 = .ok (.aload_n 0, 1) := by decide +kernel
theorem dX0_fact_72 : decode cX0_fact 72 = .ok (.getfield 49, 3) := by decide +kernel
theorem dX0_fact_75 : decode cX0_fact 75 = .ok (.ireturn, 1) := by decide +kernel
theorem dX0_fact_76 : decode cX0_fact 76 = .ok (.aload_n 0, 1) := by decide +kernel
theorem dX0_fact_77 : decode cX0_fact 77 = .ok (.getfield 52, 3) := by decide +kernel
theorem dX0_fact_80 : decode cX0_fact 80 = .ok (.ireturn, 1) := by decide +kernel
theorem dX0_fact_81 : decode cX0_fact 81 = .ok (.aload_n 0, 1) := by decide +kernel
theorem dX0_fact_82 : decode cX0_fact 82 = .ok (.getfield 55, 3) := by decide +kernel
theorem dX0_fact_85 : decode cX0_fact 85 = .ok (.ireturn, 1) := by decide +kernel
theorem dX0_fact_86 : decode cX0_fact 86 = .ok (.aload_n 0, 1) := by decide +kernel
theorem dX0_fact_87 : decode cX0_fact 87 = .ok (.getfield 58, 3) := by decide +kernel
theorem dX0_fact_90 : decode cX0_fact 90 = .ok (.ireturn, 1) := by decide +kernel
theorem dX0_fact_91 : decode cX0_fact 91 = .ok (.aload_n 0, 1) := by decide +kernel
theorem dX0_fact_92 : decode cX0_fact 92 = .ok (.getfield 30, 3) := by decide +kernel
theorem dX0_fact_95 : decode cX0_fact 95 = .ok (.ireturn, 1) := by decide +kernel
theorem dX0_fact_96 : decode cX0_fact 96 = .ok (.aload_n 0, 1) := by decide +kernel
theorem dX0_fact_97 : decode cX0_fact 97 = .ok (.getfield 33, 3) := by decide +kernel
theorem dX0_fact_100 : decode cX0_fact 100 = .ok (.ireturn, 1) := by decide +kernel
theorem dX0_fact_101 : decode cX0_fact 101 = .ok (.aload_n 0, 1) := by decide +kernel
theorem dX0_fact_102 : decode cX0_fact 102 = .ok (.getfield 39, 3) := by decide +kernel
theorem dX0_fact_105 : decode cX0_fact 105 = .ok (.ireturn, 1) := by decide +kernel
theorem dX0_fact_106 : decode cX0_fact 106 = .ok (.aload_n 0, 1) := by decide +kernel
theorem dX0_fact_107 : decode cX0_fact 107 = .ok (.getfield 43, 3) := by decide +kernel
theorem dX0_fact_110 : decode cX0_fact 110 = .ok (.ireturn, 1) := by decide +kernel
theorem dX0_isInRates_0 : decode cX0_isInRates 0 = .ok (.iload_n 1, 1) := by decide +kernel
theorem dX0_isInRates_1 : decode cX0_isInRates 1 = .ok (.aload_n 0, 1) := by decide +kernel
theorem dX0_isInRates_2 : decode cX0_isInRates 2 = .ok (.getfield 49, 3) := by decide +kernel
theorem dX0_isInRates_5 : decode cX0_isInRates 5 = .ok (.iload_n 2, 1) := by decide +kernel
theorem dX0_isInRates_6 : decode cX0_isInRates 6 = .ok (.isub, 1) := by decide +kernel
theorem dX0_isInRates_7 : decode cX0_isInRates 7 = .ok (.if_icmp .gt 17, 3) := by decide +kernel
theorem dX0_isInRates_10 : decode cX0_isInRates 10 = .ok (.iload_n 1, 1) := by decide +kernel
theorem dX0_isInRates_11 : decode cX0_isInRates 11 = .ok (.iload_n 2, 1) := by decide +kernel
theorem dX0_isInRates_12 : decode cX0_isInRates 12 = .ok (.aload_n 0, 1) := by decide +kernel
theorem dX0_isInRates_13 : decode cX0_isInRates 13 = .ok (.getfield 52, 3) := by decide +kernel
theorem dX0_isInRates_16 : decode cX0_isInRates 16 = .ok (.isub, 1) := by decide +kernel
theorem dX0_isInRates_17 : decode cX0_isInRates 17 = .ok (.if_icmp .lt 7, 3) := by decide +kernel
theorem dX0_isInRates_20 : decode cX0_isInRates 20 = .ok (.iconst 1, 1) := by decide +kernel
theorem dX0_isInRates_21 : decode cX0_isInRates 21 = .ok (.goto 4, 3) := by decide +kernel
theorem dX0_isInRates_24 : decode cX0_isInRates 24 = .ok (.iconst 0, 1) := by decide +kernel
theorem dX0_isInRates_25 : decode cX0_isInRates 25 = .ok (.ireturn, 1) := by decide +kernel
theorem dX0_chargeBehind_0 : decode cX0_chargeBehind 0 = .ok (.aload_n 0, 1) := by decide +kernel
theorem dX0_chargeBehind_1 : decode cX0_chargeBehind 1 = .ok (.getfield 36, 3) := by decide +kernel
theorem dX0_chargeBehind_4 : decode cX0_chargeBehind 4 = .ok (.istore_n 2, 1) := by decide +kernel
theorem dX0_chargeBehind_5 : decode cX0_chargeBehind 5 = .ok (.iconst 0, 1) := by decide +kernel
theorem dX0_chargeBehind_6 : decode cX0_chargeBehind 6 = .ok (.istore_n 3, 1) := by decide +kernel
theorem dX0_chargeBehind_7 : decode cX0_chargeBehind 7 = .ok (.iload_n 3, 1) := by decide +kernel
theorem dX0_chargeBehind_8 : decode cX0_chargeBehind 8 = .ok (.iload_n 1, 1) := by decide +kernel
theorem dX0_chargeBehind_9 : decode cX0_chargeBehind 9 = .ok (.if_icmp .gt 24, 3) := by decide +kernel
theorem dX0_chargeBehind_12 : decode cX0_chargeBehind 12 = .ok (.iload_n 3, 1) := by decide +kernel
theorem dX0_chargeBehind_13 : decode cX0_chargeBehind 13 = .ok (.bipush 36, 2) := by decide +kernel
theorem dX0_chargeBehind_15 : decode cX0_chargeBehind 15 = .ok (.if_icmp .ge 18, 3) := by decide +kernel
theorem dX0_chargeBehind_18 : decode cX0_chargeBehind 18 = .ok (.iload_n 2, 1) := by decide +kernel
theorem dX0_chargeBehind_19 : decode cX0_chargeBehind 19 = .ok (.aload_n 0, 1) := by decide +kernel
theorem dX0_chargeBehind_20 : decode cX0_chargeBehind 20 = .ok (.getfield 9, 3) := by decide +kernel
theorem dX0_chargeBehind_23 : decode cX0_chargeBehind 23 = .ok (.iload_n 3, 1) := by decide +kernel
theorem dX0_chargeBehind_24 : decode cX0_chargeBehind 24 = .ok (.iaload, 1) := by decide +kernel
theorem dX0_chargeBehind_25 : decode cX0_chargeBehind 25 = .ok (.iadd, 1) := by decide +kernel
theorem dX0_chargeBehind_26 : decode cX0_chargeBehind 26 = .ok (.istore_n 2, 1) := by decide +kernel
theorem dX0_chargeBehind_27 : decode cX0_chargeBehind 27 = .ok (.iinc 3 1, 3) := by decide +kernel
theorem dX0_chargeBehind_30 : decode cX0_chargeBehind 30 = .ok (.goto (-23), 3) := by decide +kernel
theorem dX0_chargeBehind_33 : decode cX0_chargeBehind 33 = .ok (.iload_n 2, 1) := by decide +kernel
theorem dX0_chargeBehind_34 : decode cX0_chargeBehind 34 = .ok (.ireturn, 1) := by decide +kernel
theorem dX0_possible_0 : decode cX0_possible 0 = .ok (.aload_n 0, 1) := by decide +kernel
theorem dX0_possible_1 : decode cX0_possible 1 = .ok (.getfield 49, 3) := by decide +kernel
theorem dX0_possible_4 : decode cX0_possible 4 = .ok (.aload_n 0, 1) := by decide +kernel
theorem dX0_possible_5 : decode cX0_possible 5 = .ok (.getfield 33, 3) := by decide +kernel
theorem dX0_possible_8 : decode cX0_possible 8 = .ok (.iload_n 2, 1) := by decide +kernel
theorem dX0_possible_9 : decode cX0_possible 9 = .ok (.isub, 1) := by decide +kernel
theorem dX0_possible_10 : decode cX0_possible 10 = .ok (.invokestatic 67, 3) := by decide +kernel
theorem dX0_possible_13 : decode cX0_possible 13 = .ok (.istore_n 3, 1) := by decide +kernel
theorem dX0_possible_14 : decode cX0_possible 14 = .ok (.aload_n 0, 1) := by decide +kernel
theorem dX0_possible_15 : decode cX0_possible 15 = .ok (.getfield 52, 3) := by decide +kernel
theorem dX0_possible_18 : decode cX0_possible 18 = .ok (.ineg, 1) := by decide +kernel
theorem dX0_possible_19 : decode cX0_possible 19 = .ok (.aload_n 0, 1) := by decide +kernel
theorem dX0_possible_20 : decode cX0_possible 20 = .ok (.getfield 30, 3) := by decide +kernel
theorem dX0_possible_23 : decode cX0_possible 23 = .ok (.iload_n 2, 1) := by decide +kernel
theorem dX0_possible_24 : decode cX0_possible 24 = .ok (.isub, 1) := by decide +kernel
theorem dX0_possible_25 : decode cX0_possible 25 = .ok (.invokestatic 73, 3) := by decide +kernel
theorem dX0_possible_28 : decode cX0_possible 28 = .ok (.istore 4, 2) := by decide +kernel
theorem dX0_possible_30 : decode cX0_possible 30 = .ok (.iload 4, 2) := by decide +kernel
theorem dX0_possible_32 : decode cX0_possible 32 = .ok (.iload_n 3, 1) := by decide +kernel
theorem dX0_possible_33 : decode cX0_possible 33 = .ok (.iload_n 1, 1) := by decide +kernel
theorem dX0_possible_34 : decode cX0_possible 34 = .ok (.invokestatic 67, 3) := by decide +kernel
theorem dX0_possible_37 : decode cX0_possible 37 = .ok (.invokestatic 73, 3) := by decide +kernel
theorem dX0_possible_40 : decode cX0_possible 40 = .ok (.ireturn, 1) := by decide +kernel
theorem dX0_moneyOf_0 : decode cX0_moneyOf 0 = .ok (.aload_n 0, 1) := by decide +kernel
theorem dX0_moneyOf_1 : decode cX0_moneyOf 1 = .ok (.iload_n 1, 1) := by decide +kernel
theorem dX0_moneyOf_2 : decode cX0_moneyOf 2 = .ok (.lload_n 2, 1) := by decide +kernel
theorem dX0_moneyOf_3 : decode cX0_moneyOf 3 = .ok (.iconst 1, 1) := by decide +kernel
theorem dX0_moneyOf_4 : decode cX0_moneyOf 4 = .ok (.invokevirtual 76, 3) := by decide +kernel
theorem dX0_moneyOf_7 : decode cX0_moneyOf 7 = .ok (.lreturn, 1) := by decide +kernel
theorem dX0_moneyTogether_0 : decode cX0_moneyTogether 0 = .ok (.iload_n 1, 1) := by decide +kernel
theorem dX0_moneyTogether_1 : decode cX0_moneyTogether 1 = .ok (.ifCond .le 22, 3) := by decide +kernel
theorem dX0_moneyTogether_4 : decode cX0_moneyTogether 4 = .ok (.lload_n 2, 1) := by decide +kernel
theorem dX0_moneyTogether_5 : decode cX0_moneyTogether 5 = .ok (.lneg, 1) := by decide +kernel
theorem dX0_moneyTogether_6 : decode cX0_moneyTogether 6 = .ok (.iload_n 1, 1) := by decide +kernel
theorem dX0_moneyTogether_7 : decode cX0_moneyTogether 7 = .ok (.iload_n 1, 1) := by decide +kernel
theorem dX0_moneyTogether_8 : decode cX0_moneyTogether 8 = .ok (.aload_n 0, 1) := by decide +kernel
theorem dX0_moneyTogether_9 : decode cX0_moneyTogether 9 = .ok (.getfield 55, 3) := by decide +kernel
theorem dX0_moneyTogether_12 : decode cX0_moneyTogether 12 = .ok (.imul, 1) := by decide +kernel
theorem dX0_moneyTogether_13 : decode cX0_moneyTogether 13 = .ok (.bipush 99, 2) := by decide +kernel
theorem dX0_moneyTogether_15 : decode cX0_moneyTogether 15 = .ok (.iadd, 1) := by decide +kernel
theorem dX0_moneyTogether_16 : decode cX0_moneyTogether 16 = .ok (.bipush 100, 2) := by decide +kernel
theorem dX0_moneyTogether_18 : decode cX0_moneyTogether 18 = .ok (.idiv, 1) := by decide +kernel
theorem dX0_moneyTogether_19 : decode cX0_moneyTogether 19 = .ok (.iadd, 1) := by decide +kernel
theorem dX0_moneyTogether_20 : decode cX0_moneyTogether 20 = .ok (.i2l, 1) := by decide +kernel
theorem dX0_moneyTogether_21 : decode cX0_moneyTogether 21 = .ok (.lmul, 1) := by decide +kernel
theorem dX0_moneyTogether_22 : decode cX0_moneyTogether 22 = .ok (.lreturn, 1) := by decide +kernel
theorem dX0_moneyTogether_23 : decode cX0_moneyTogether 23 = .ok (.lload_n 2, 1) := by decide +kernel
theorem dX0_moneyTogether_24 : decode cX0_moneyTogether 24 = .ok (.iload 4, 2) := by decide +kernel
theorem dX0_moneyTogether_26 : decode cX0_moneyTogether 26 = .ok (.aload_n 0, 1) := by decide +kernel
theorem dX0_moneyTogether_27 : decode cX0_moneyTogether 27 = .ok (.getfield 58, 3) := by decide +kernel
theorem dX0_moneyTogether_30 : decode cX0_moneyTogether 30 = .ok (.imul, 1) := by decide +kernel
theorem dX0_moneyTogether_31 : decode cX0_moneyTogether 31 = .ok (.i2l, 1) := by decide +kernel
theorem dX0_moneyTogether_32 : decode cX0_moneyTogether 32 = .ok (.lsub, 1) := by decide +kernel
theorem dX0_moneyTogether_33 : decode cX0_moneyTogether 33 = .ok (.iload_n 1, 1) := by decide +kernel
theorem dX0_moneyTogether_34 : decode cX0_moneyTogether 34 = .ok (.ineg, 1) := by decide +kernel
theorem dX0_moneyTogether_35 : decode cX0_moneyTogether 35 = .ok (.i2l, 1) := by decide +kernel
theorem dX0_moneyTogether_36 : decode cX0_moneyTogether 36 = .ok (.lmul, 1) := by decide +kernel
theorem dX0_moneyTogether_37 : decode cX0_moneyTogether 37 = .ok (.lreturn, 1) := by decide +kernel
theorem dX0_planMoney_0 : decode cX0_planMoney 0 = .ok (.lconst 0, 1) := by decide +kernel
theorem dX0_planMoney_1 : decode cX0_planMoney 1 = .ok (.lstore_n 3, 1) := by decide +kernel
theorem dX0_planMoney_2 : decode cX0_planMoney 2 = .ok (.iconst 0, 1) := by decide +kernel
theorem dX0_planMoney_3 : decode cX0_planMoney 3 = .ok (.istore 5, 2) := by decide +kernel
theorem dX0_planMoney_5 : decode cX0_planMoney 5 = .ok (.iload 5, 2) := by decide +kernel
theorem dX0_planMoney_7 : decode cX0_planMoney 7 = .ok (.iload_n 2, 1) := by decide +kernel
theorem dX0_planMoney_8 : decode cX0_planMoney 8 = .ok (.if_icmp .ge 30, 3) := by decide +kernel
theorem dX0_planMoney_11 : decode cX0_planMoney 11 = .ok (.lload_n 3, 1) := by decide +kernel
theorem dX0_planMoney_12 : decode cX0_planMoney 12 = .ok (.aload_n 0, 1) := by decide +kernel
theorem dX0_planMoney_13 : decode cX0_planMoney 13 = .ok (.aload_n 0, 1) := by decide +kernel
theorem dX0_planMoney_14 : decode cX0_planMoney 14 = .ok (.getfield 9, 3) := by decide +kernel
theorem dX0_planMoney_17 : decode cX0_planMoney 17 = .ok (.iload 5, 2) := by decide +kernel
theorem dX0_planMoney_19 : decode cX0_planMoney 19 = .ok (.iaload, 1) := by decide +kernel
theorem dX0_planMoney_20 : decode cX0_planMoney 20 = .ok (.aload_n 1, 1) := by decide +kernel
theorem dX0_planMoney_21 : decode cX0_planMoney 21 = .ok (.iload 5, 2) := by decide +kernel
theorem dX0_planMoney_23 : decode cX0_planMoney 23 = .ok (.invokevirtual 80, 3) := by decide +kernel
theorem dX0_planMoney_26 : decode cX0_planMoney 26 = .ok (.i2l, 1) := by decide +kernel
theorem dX0_planMoney_27 : decode cX0_planMoney 27 = .ok (.invokevirtual 86, 3) := by decide +kernel
theorem dX0_planMoney_30 : decode cX0_planMoney 30 = .ok (.ladd, 1) := by decide +kernel
theorem dX0_planMoney_31 : decode cX0_planMoney 31 = .ok (.lstore_n 3, 1) := by decide +kernel
theorem dX0_planMoney_32 : decode cX0_planMoney 32 = .ok (.iinc 5 1, 3) := by decide +kernel
theorem dX0_planMoney_35 : decode cX0_planMoney 35 = .ok (.goto (-30), 3) := by decide +kernel
theorem dX0_planMoney_38 : decode cX0_planMoney 38 = .ok (.lload_n 3, 1) := by decide +kernel
theorem dX0_planMoney_39 : decode cX0_planMoney 39 = .ok (.lreturn, 1) := by decide +kernel
theorem dX1_init_0 : decode cX1_init 0 = .ok (.aload_n 0, 1) := by decide +kernel
theorem dX1_init_1 : decode cX1_init 1 = .ok (.invokespecial 3, 3) := by decide +kernel
theorem dX1_init_4 : decode cX1_init 4 = .ok (.aload_n 0, 1) := by decide +kernel
theorem dX1_init_5 : decode cX1_init 5 = .ok (.bipush 12, 2) := by decide +kernel
theorem dX1_init_7 : decode cX1_init 7 = .ok (.newarray .int, 2) := by decide +kernel
theorem dX1_init_9 : decode cX1_init 9 = .ok (.putfield 9, 3) := by decide +kernel
theorem dX1_init_12 : decode cX1_init 12 = .ok (.aload_n 0, 1) := by decide +kernel
theorem dX1_init_13 : decode cX1_init 13 = .ok (.bipush 12, 2) := by decide +kernel
theorem dX1_init_15 : decode cX1_init 15 = .ok (.newarray .int, 2) := by decide +kernel
theorem dX1_init_17 : decode cX1_init 17 = .ok (.putfield 15, 3) := by decide +kernel
theorem dX1_init_20 : decode cX1_init 20 = .ok (.aload_n 0, 1) := by decide +kernel
theorem dX1_init_21 : decode cX1_init 21 = .ok (.bipush 12, 2) := by decide +kernel
theorem dX1_init_23 : decode cX1_init 23 = .ok (.newarray .int, 2) := by decide +kernel
theorem dX1_init_25 : decode cX1_init 25 = .ok (.putfield 18, 3) := by decide +kernel
theorem dX1_init_28 : decode cX1_init 28 = .ok (.aload_n 0, 1) := by decide +kernel
theorem dX1_init_29 : decode cX1_init 29 = .ok (.bipush 12, 2) := by decide +kernel
theorem dX1_init_31 : decode cX1_init 31 = .ok (.newarray .int, 2) := by decide +kernel
theorem dX1_init_33 : decode cX1_init 33 = .ok (.putfield 21, 3) := by decide +kernel
theorem dX1_init_36 : decode cX1_init 36 = .ok (.return_, 1) := by decide +kernel
theorem dX1_add_0 : decode cX1_add 0 = .ok (.aload_n 0, 1) := by decide +kernel
theorem dX1_add_1 : decode cX1_add 1 = .ok (.getfield 9, 3) := by decide +kernel
theorem dX1_add_4 : decode cX1_add 4 = .ok (.aload_n 0, 1) := by decide +kernel
theorem dX1_add_5 : decode cX1_add 5 = .ok (.getfield 24, 3) := by decide +kernel
theorem dX1_add_8 : decode cX1_add 8 = .ok (.iload_n 1, 1) := by decide +kernel
theorem dX1_add_9 : decode cX1_add 9 = .ok (.iastore, 1) := by decide +kernel
theorem dX1_add_10 : decode cX1_add 10 = .ok (.aload_n 0, 1) := by decide +kernel
theorem dX1_add_11 : decode cX1_add 11 = .ok (.getfield 15, 3) := by decide +kernel
theorem dX1_add_14 : decode cX1_add 14 = .ok (.aload_n 0, 1) := by decide +kernel
theorem dX1_add_15 : decode cX1_add 15 = .ok (.getfield 24, 3) := by decide +kernel
theorem dX1_add_18 : decode cX1_add 18 = .ok (.iload_n 2, 1) := by decide +kernel
theorem dX1_add_19 : decode cX1_add 19 = .ok (.iastore, 1) := by decide +kernel
theorem dX1_add_20 : decode cX1_add 20 = .ok (.aload_n 0, 1) := by decide +kernel
theorem dX1_add_21 : decode cX1_add 21 = .ok (.getfield 18, 3) := by decide +kernel
theorem dX1_add_24 : decode cX1_add 24 = .ok (.aload_n 0, 1) := by decide +kernel
theorem dX1_add_25 : decode cX1_add 25 = .ok (.getfield 24, 3) := by decide +kernel
theorem dX1_add_28 : decode cX1_add 28 = .ok (.iload_n 3, 1) := by decide +kernel
theorem dX1_add_29 : decode cX1_add 29 = .ok (.iastore, 1) := by decide +kernel
theorem dX1_add_30 : decode cX1_add 30 = .ok (.aload_n 0, 1) := by decide +kernel
theorem dX1_add_31 : decode cX1_add 31 = .ok (.getfield 21, 3) := by decide +kernel
theorem dX1_add_34 : decode cX1_add 34 = .ok (.aload_n 0, 1) := by decide +kernel
theorem dX1_add_35 : decode cX1_add 35 = .ok (.getfield 24, 3) := by decide +kernel
theorem dX1_add_38 : decode cX1_add 38 = .ok (.iload 4, 2) := by decide +kernel
theorem dX1_add_40 : decode cX1_add 40 = .ok (.iastore, 1) := by decide +kernel
theorem dX1_add_41 : decode cX1_add 41 = .ok (.aload_n 0, 1) := by decide +kernel
theorem dX1_add_42 : decode cX1_add 42 = .ok (.dup, 1) := by decide +kernel
theorem dX1_add_43 : decode cX1_add 43 = .ok (.getfield 24, 3) := by decide +kernel
theorem dX1_add_46 : decode cX1_add 46 = .ok (.iconst 1, 1) := by decide +kernel
theorem dX1_add_47 : decode cX1_add 47 = .ok (.iadd, 1) := by decide +kernel
theorem dX1_add_48 : decode cX1_add 48 = .ok (.putfield 24, 3) := by decide +kernel
theorem dX1_add_51 : decode cX1_add 51 = .ok (.aload_n 0, 1) := by decide +kernel
theorem dX1_add_52 : decode cX1_add 52 = .ok (.getfield 24, 3) := by decide +kernel
theorem dX1_add_55 : decode cX1_add 55 = .ok (.iconst 1, 1) := by decide +kernel
theorem dX1_add_56 : decode cX1_add 56 = .ok (.isub, 1) := by decide +kernel
theorem dX1_add_57 : decode cX1_add 57 = .ok (.ireturn, 1) := by decide +kernel
theorem dX1_isTaken_0 : decode cX1_isTaken 0 = .ok (.iconst 0, 1) := by decide +kernel
theorem dX1_isTaken_1 : decode cX1_isTaken 1 = .ok (.istore_n 3, 1) := by decide +kernel
theorem dX1_isTaken_2 : decode cX1_isTaken 2 = .ok (.aload_n 0, 1) := by decide +kernel
theorem dX1_isTaken_3 : decode cX1_isTaken 3 = .ok (.getfield 9, 3) := by decide +kernel
theorem dX1_isTaken_6 : decode cX1_isTaken 6 = .ok (.iload_n 1, 1) := by decide +kernel
theorem dX1_isTaken_7 : decode cX1_isTaken 7 = .ok (.iaload, 1) := by decide +kernel
theorem dX1_isTaken_8 : decode cX1_isTaken 8 = .ok (.istore 4, 2) := by decide +kernel
theorem dX1_isTaken_10 : decode cX1_isTaken 10 = .ok (.iload 4, 2) := by decide +kernel
theorem dX1_isTaken_12 : decode cX1_isTaken 12 = .ok (.aload_n 0, 1) := by decide +kernel
theorem dX1_isTaken_13 : decode cX1_isTaken 13 = .ok (.getfield 15, 3) := by decide +kernel
theorem dX1_isTaken_16 : decode cX1_isTaken 16 = .ok (.iload_n 1, 1) := by decide +kernel
theorem dX1_isTaken_17 : decode cX1_isTaken 17 = .ok (.iaload, 1) := by decide +kernel
theorem dX1_isTaken_18 : decode cX1_isTaken 18 = .ok (.if_icmp .gt 18, 3) := by decide +kernel
theorem dX1_isTaken_21 : decode cX1_isTaken 21 = .ok (.iload_n 3, 1) := by decide +kernel
theorem dX1_isTaken_22 : decode cX1_isTaken 22 = .ok (.aload_n 2, 1) := by decide +kernel
theorem dX1_isTaken_23 : decode cX1_isTaken 23 = .ok (.iload 4, 2) := by decide +kernel
theorem dX1_isTaken_25 : decode cX1_isTaken 25 = .ok (.invokevirtual 28, 3) := by decide +kernel
theorem dX1_isTaken_28 : decode cX1_isTaken 28 = .ok (.iadd, 1) := by decide +kernel
theorem dX1_isTaken_29 : decode cX1_isTaken 29 = .ok (.istore_n 3, 1) := by decide +kernel
theorem dX1_isTaken_30 : decode cX1_isTaken 30 = .ok (.iinc 4 1, 3) := by decide +kernel
theorem dX1_isTaken_33 : decode cX1_isTaken 33 = .ok (.goto (-23), 3) := by decide +kernel
theorem dX1_isTaken_36 : decode cX1_isTaken 36 = .ok (.aload_n 0, 1) := by decide +kernel
theorem dX1_isTaken_37 : decode cX1_isTaken 37 = .ok (.getfield 21, 3) := by decide +kernel
theorem dX1_isTaken_40 : decode cX1_isTaken 40 = .ok (.iload_n 1, 1) := by decide +kernel
theorem dX1_isTaken_41 : decode cX1_isTaken 41 = .ok (.iaload, 1) := by decide +kernel
theorem dX1_isTaken_42 : decode cX1_isTaken 42 = .ok (.aload_n 0, 1) := by decide +kernel
theorem dX1_isTaken_43 : decode cX1_isTaken 43 = .ok (.getfield 15, 3) := by decide +kernel
theorem dX1_isTaken_46 : decode cX1_isTaken 46 = .ok (.iload_n 1, 1) := by decide +kernel
theorem dX1_isTaken_47 : decode cX1_isTaken 47 = .ok (.iaload, 1) := by decide +kernel
theorem dX1_isTaken_48 : decode cX1_isTaken 48 = .ok (.aload_n 0, 1) := by decide +kernel
theorem dX1_isTaken_49 : decode cX1_isTaken 49 = .ok (.getfield 9, 3) := by decide +kernel
theorem dX1_isTaken_52 : decode cX1_isTaken 52 = .ok (.iload_n 1, 1) := by decide +kernel
theorem dX1_isTaken_53 : decode cX1_isTaken 53 = .ok (.iaload, 1) := by decide +kernel
theorem dX1_isTaken_54 : decode cX1_isTaken 54 = .ok (.isub, 1) := by decide +kernel
theorem dX1_isTaken_55 : decode cX1_isTaken 55 = .ok (.iconst 1, 1) := by decide +kernel
theorem dX1_isTaken_56 : decode cX1_isTaken 56 = .ok (.iadd, 1) := by decide +kernel
theorem dX1_isTaken_57 : decode cX1_isTaken 57 = .ok (.imul, 1) := by decide +kernel
theorem dX1_isTaken_58 : decode cX1_isTaken 58 = .ok (.istore 4, 2) := by decide +kernel
theorem dX1_isTaken_60 : decode cX1_isTaken 60 = .ok (.aload_n 0, 1) := by decide +kernel
theorem dX1_isTaken_61 : decode cX1_isTaken 61 = .ok (.getfield 18, 3) := by decide +kernel
theorem dX1_isTaken_64 : decode cX1_isTaken 64 = .ok (.iload_n 1, 1) := by decide +kernel
theorem dX1_isTaken_65 : decode cX1_isTaken 65 = .ok (.iaload, 1) := by decide +kernel
theorem dX1_isTaken_66 : decode cX1_isTaken 66 = .ok (.ifCond .ge 17, 3) := by decide +kernel
theorem dX1_isTaken_69 : decode cX1_isTaken 69 = .ok (.iload_n 3, 1) := by decide +kernel
theorem dX1_isTaken_70 : decode cX1_isTaken 70 = .ok (.iload 4, 2) := by decide +kernel
theorem dX1_isTaken_72 : decode cX1_isTaken 72 = .ok (.if_icmp .lt 7, 3) := by decide +kernel
theorem dX1_isTaken_75 : decode cX1_isTaken 75 = .ok (.iconst 1, 1) := by decide +kernel
theorem dX1_isTaken_76 : decode cX1_isTaken 76 = .ok (.goto 18, 3) := by decide +kernel
theorem dX1_isTaken_79 : decode cX1_isTaken 79 = .ok (.iconst 0, 1) := by decide +kernel
theorem dX1_isTaken_80 : decode cX1_isTaken 80 = .ok (.goto 14, 3) := by decide +kernel
theorem dX1_isTaken_83 : decode cX1_isTaken 83 = .ok (.iload_n 3, 1) := by decide +kernel
theorem dX1_isTaken_84 : decode cX1_isTaken 84 = .ok (.iload 4, 2) := by decide +kernel
theorem dX1_isTaken_86 : decode cX1_isTaken 86 = .ok (.if_icmp .gt 7, 3) := by decide +kernel
theorem dX1_isTaken_89 : decode cX1_isTaken 89 = .ok (.iconst 1, 1) := by decide +kernel
theorem dX1_isTaken_90 : decode cX1_isTaken 90 = .ok (.goto 4, 3) := by decide +kernel
theorem dX1_isTaken_93 : decode cX1_isTaken 93 = .ok (.iconst 0, 1) := by decide +kernel
theorem dX1_isTaken_94 : decode cX1_isTaken 94 = .ok (.ireturn, 1) := by decide +kernel
theorem dX1_sumWanted_0 : decode cX1_sumWanted 0 = .ok (.iconst 0, 1) := by decide +kernel
theorem dX1_sumWanted_1 : decode cX1_sumWanted 1 = .ok (.istore_n 3, 1) := by decide +kernel
theorem dX1_sumWanted_2 : decode cX1_sumWanted 2 = .ok (.iconst 0, 1) := by decide +kernel
theorem dX1_sumWanted_3 : decode cX1_sumWanted 3 = .ok (.istore 4, 2) := by decide +kernel
theorem dX1_sumWanted_5 : decode cX1_sumWanted 5 = .ok (.iload 4, 2) := by decide +kernel
theorem dX1_sumWanted_7 : decode cX1_sumWanted 7 = .ok (.aload_n 0, 1) := by decide +kernel
theorem dX1_sumWanted_8 : decode cX1_sumWanted 8 = .ok (.getfield 24, 3) := by decide +kernel
theorem dX1_sumWanted_11 : decode cX1_sumWanted 11 = .ok (.if_icmp .ge 50, 3) := by decide +kernel
theorem dX1_sumWanted_14 : decode cX1_sumWanted 14 = .ok (.iload_n 2, 1) := by decide +kernel
theorem dX1_sumWanted_15 : decode cX1_sumWanted 15 = .ok (.aload_n 0, 1) := by decide +kernel
theorem dX1_sumWanted_16 : decode cX1_sumWanted 16 = .ok (.getfield 9, 3) := by decide +kernel
theorem dX1_sumWanted_19 : decode cX1_sumWanted 19 = .ok (.iload 4, 2) := by decide +kernel
theorem dX1_sumWanted_21 : decode cX1_sumWanted 21 = .ok (.iaload, 1) := by decide +kernel
theorem dX1_sumWanted_22 : decode cX1_sumWanted 22 = .ok (.aload_n 0, 1) := by decide +kernel
theorem dX1_sumWanted_23 : decode cX1_sumWanted 23 = .ok (.getfield 15, 3) := by decide +kernel
theorem dX1_sumWanted_26 : decode cX1_sumWanted 26 = .ok (.iload 4, 2) := by decide +kernel
theorem dX1_sumWanted_28 : decode cX1_sumWanted 28 = .ok (.iaload, 1) := by decide +kernel
theorem dX1_sumWanted_29 : decode cX1_sumWanted 29 = .ok (.invokestatic 34, 3) := by decide +kernel
theorem dX1_sumWanted_32 : decode cX1_sumWanted 32 = .ok (.ifCond .eq 23, 3) := by decide +kernel
theorem dX1_sumWanted_35 : decode cX1_sumWanted 35 = .ok (.aload_n 0, 1) := by decide +kernel
theorem dX1_sumWanted_36 : decode cX1_sumWanted 36 = .ok (.iload 4, 2) := by decide +kernel
theorem dX1_sumWanted_38 : decode cX1_sumWanted 38 = .ok (.aload_n 1, 1) := by decide +kernel
theorem dX1_sumWanted_39 : decode cX1_sumWanted 39 = .ok (.invokevirtual 38, 3) := by decide +kernel
theorem dX1_sumWanted_42 : decode cX1_sumWanted 42 = .ok (.ifCond .eq 13, 3) := by decide +kernel
theorem dX1_sumWanted_45 : decode cX1_sumWanted 45 = .ok (.iload_n 3, 1) := by decide +kernel
theorem dX1_sumWanted_46 : decode cX1_sumWanted 46 = .ok (.aload_n 0, 1) := by decide +kernel
theorem dX1_sumWanted_47 : decode cX1_sumWanted 47 = .ok (.getfield 18, 3) := by decide +kernel
theorem dX1_sumWanted_50 : decode cX1_sumWanted 50 = .ok (.iload 4, 2) := by decide +kernel
theorem dX1_sumWanted_52 : decode cX1_sumWanted 52 = .ok (.iaload, 1) := by decide +kernel
theorem dX1_sumWanted_53 : decode cX1_sumWanted 53 = .ok (.iadd, 1) := by decide +kernel
theorem dX1_sumWanted_54 : decode cX1_sumWanted 54 = .ok (.istore_n 3, 1) := by decide +kernel
theorem dX1_sumWanted_55 : decode cX1_sumWanted 55 = .ok (.iinc 4 1, 3) := by decide +kernel
theorem dX1_sumWanted_58 : decode cX1_sumWanted 58 = .ok (.goto (-53), 3) := by decide +kernel
theorem dX1_sumWanted_61 : decode cX1_sumWanted 61 = .ok (.iload_n 3, 1) := by decide +kernel
theorem dX1_sumWanted_62 : decode cX1_sumWanted 62 = .ok (.ireturn, 1) := by decide +kernel
theorem dX2_init_0 : decode cX2_init 0 = .ok (.aload_n 0, 1) := by decide +kernel
theorem dX2_init_1 : decode cX2_init 1 = .ok (.invokespecial 3, 3) := by decide +kernel
theorem dX2_init_4 : decode cX2_init 4 = .ok (.aload_n 0, 1) := by decide +kernel
theorem dX2_init_5 : decode cX2_init 5 = .ok (.sipush 150, 3) := by decide +kernel
theorem dX2_init_8 : decode cX2_init 8 = .ok (.newarray .int, 2) := by decide +kernel
theorem dX2_init_10 : decode cX2_init 10 = .ok (.putfield 9, 3) := by decide +kernel
theorem dX2_init_13 : decode cX2_init 13 = .ok (.aload_n 0, 1) := by decide +kernel
theorem dX2_init_14 : decode cX2_init 14 = .ok (.sipush 150, 3) := by decide +kernel
theorem dX2_init_17 : decode cX2_init 17 = .ok (.newarray .int, 2) := by decide +kernel
theorem dX2_init_19 : decode cX2_init 19 = .ok (.putfield 15, 3) := by decide +kernel
theorem dX2_init_22 : decode cX2_init 22 = .ok (.aload_n 0, 1) := by decide +kernel
theorem dX2_init_23 : decode cX2_init 23 = .ok (.sipush 150, 3) := by decide +kernel
theorem dX2_init_26 : decode cX2_init 26 = .ok (.newarray .int, 2) := by decide +kernel
theorem dX2_init_28 : decode cX2_init 28 = .ok (.putfield 18, 3) := by decide +kernel
theorem dX2_init_31 : decode cX2_init 31 = .ok (.aload_n 0, 1) := by decide +kernel
theorem dX2_init_32 : decode cX2_init 32 = .ok (.sipush 150, 3) := by decide +kernel
theorem dX2_init_35 : decode cX2_init 35 = .ok (.newarray .int, 2) := by decide +kernel
theorem dX2_init_37 : decode cX2_init 37 = .ok (.putfield 21, 3) := by decide +kernel
theorem dX2_init_40 : decode cX2_init 40 = .ok (.aload_n 0, 1) := by decide +kernel
theorem dX2_init_41 : decode cX2_init 41 = .ok (.sipush 150, 3) := by decide +kernel
theorem dX2_init_44 : decode cX2_init 44 = .ok (.newarray .long, 2) := by decide +kernel
theorem dX2_init_46 : decode cX2_init 46 = .ok (.putfield 24, 3) := by decide +kernel
theorem dX2_init_49 : decode cX2_init 49 = .ok (.return_, 1) := by decide +kernel
theorem dX2_add_0 : decode cX2_add 0 = .ok (.aload_n 0, 1) := by decide +kernel
theorem dX2_add_1 : decode cX2_add 1 = .ok (.getfield 9, 3) := by decide +kernel
theorem dX2_add_4 : decode cX2_add 4 = .ok (.aload_n 0, 1) := by decide +kernel
theorem dX2_add_5 : decode cX2_add 5 = .ok (.getfield 28, 3) := by decide +kernel
theorem dX2_add_8 : decode cX2_add 8 = .ok (.iload_n 1, 1) := by decide +kernel
theorem dX2_add_9 : decode cX2_add 9 = .ok (.iastore, 1) := by decide +kernel
theorem dX2_add_10 : decode cX2_add 10 = .ok (.aload_n 0, 1) := by decide +kernel
theorem dX2_add_11 : decode cX2_add 11 = .ok (.getfield 15, 3) := by decide +kernel
theorem dX2_add_14 : decode cX2_add 14 = .ok (.aload_n 0, 1) := by decide +kernel
theorem dX2_add_15 : decode cX2_add 15 = .ok (.getfield 28, 3) := by decide +kernel
theorem dX2_add_18 : decode cX2_add 18 = .ok (.iload_n 2, 1) := by decide +kernel
theorem dX2_add_19 : decode cX2_add 19 = .ok (.iastore, 1) := by decide +kernel
theorem dX2_add_20 : decode cX2_add 20 = .ok (.aload_n 0, 1) := by decide +kernel
theorem dX2_add_21 : decode cX2_add 21 = .ok (.getfield 18, 3) := by decide +kernel
theorem dX2_add_24 : decode cX2_add 24 = .ok (.aload_n 0, 1) := by decide +kernel
theorem dX2_add_25 : decode cX2_add 25 = .ok (.getfield 28, 3) := by decide +kernel
theorem dX2_add_28 : decode cX2_add 28 = .ok (.iload_n 3, 1) := by decide +kernel
theorem dX2_add_29 : decode cX2_add 29 = .ok (.iastore, 1) := by decide +kernel
theorem dX2_add_30 : decode cX2_add 30 = .ok (.aload_n 0, 1) := by decide +kernel
theorem dX2_add_31 : decode cX2_add 31 = .ok (.getfield 21, 3) := by decide +kernel
theorem dX2_add_34 : decode cX2_add 34 = .ok (.aload_n 0, 1) := by decide +kernel
theorem dX2_add_35 : decode cX2_add 35 = .ok (.getfield 28, 3) := by decide +kernel
theorem dX2_add_38 : decode cX2_add 38 = .ok (.iload 4, 2) := by decide +kernel
theorem dX2_add_40 : decode cX2_add 40 = .ok (.iastore, 1) := by decide +kernel
theorem dX2_add_41 : decode cX2_add 41 = .ok (.aload_n 0, 1) := by decide +kernel
theorem dX2_add_42 : decode cX2_add 42 = .ok (.getfield 24, 3) := by decide +kernel
theorem dX2_add_45 : decode cX2_add 45 = .ok (.aload_n 0, 1) := by decide +kernel
theorem dX2_add_46 : decode cX2_add 46 = .ok (.getfield 28, 3) := by decide +kernel
theorem dX2_add_49 : decode cX2_add 49 = .ok (.lload 5, 2) := by decide +kernel
theorem dX2_add_51 : decode cX2_add 51 = .ok (.lastore, 1) := by decide +kernel
theorem dX2_add_52 : decode cX2_add 52 = .ok (.aload_n 0, 1) := by decide +kernel
theorem dX2_add_53 : decode cX2_add 53 = .ok (.dup, 1) := by decide +kernel
theorem dX2_add_54 : decode cX2_add 54 = .ok (.getfield 28, 3) := by decide +kernel
theorem dX2_add_57 : decode cX2_add 57 = .ok (.iconst 1, 1) := by decide +kernel
theorem dX2_add_58 : decode cX2_add 58 = .ok (.iadd, 1) := by decide +kernel
theorem dX2_add_59 : decode cX2_add 59 = .ok (.putfield 28, 3) := by decide +kernel
theorem dX2_add_62 : decode cX2_add 62 = .ok (.return_, 1) := by decide +kernel
theorem dX2_fact_0 : decode cX2_fact 0 = .ok (.iload_n 2, 1) := by decide +kernel
theorem dX2_fact_1 : decode cX2_fact 1 = .ok (.tableswitch 63 0 3 #[31, 39, 47, 55], 31) := by decide +kernel
theorem dX2_fact_32 : decode cX2_fact 32 = .ok (.aload_n 0, 1) := by decide +kernel
theorem dX2_fact_33 : decode cX2_fact 33 = .ok (.getfield 9, 3) := by decide +kernel
theorem dX2_fact_36 : decode cX2_fact 36 = .ok (.iload_n 1, 1) := by decide +kernel
theorem dX2_fact_37 : decode cX2_fact 37 = .ok (.iaload, 1) := by decide +kernel
theorem dX2_fact_38 : decode cX2_fact 38 = .ok (.i2l, 1) := by decide +kernel
theorem dX2_fact_39 : decode cX2_fact 39 = .ok (.lreturn, 1) := by decide +kernel
theorem dX2_fact_40 : decode cX2_fact 40 = .ok (.aload_n 0, 1) := by decide +kernel
theorem dX2_fact_41 : decode cX2_fact 41 = .ok (.getfield 15, 3) := by decide +kernel
theorem dX2_fact_44 : decode cX2_fact 44 = .ok (.iload_n 1, 1) := by decide +kernel
theorem dX2_fact_45 : decode cX2_fact 45 = .ok (.iaload, 1) := by decide +kernel
theorem dX2_fact_46 : decode cX2_fact 46 = .ok (.i2l, 1) := by decide +kernel
theorem dX2_fact_47 : decode cX2_fact 47 = .ok (.lreturn, 1) := by decide +kernel
theorem dX2_fact_48 : decode cX2_fact 48 = .ok (.aload_n 0, 1) := by decide +kernel
theorem dX2_fact_49 : decode cX2_fact 49 = .ok (.getfield 18, 3) := by decide +kernel
theorem dX2_fact_52 : decode cX2_fact 52 = .ok (.iload_n 1, 1) := by decide +kernel
theorem dX2_fact_53 : decode cX2_fact 53 = .ok (.iaload, 1) := by decide +kernel
theorem dX2_fact_54 : decode cX2_fact 54 = .ok (.i2l, 1) := by decide +kernel
theorem dX2_fact_55 : decode cX2_fact 55 = .ok (.lreturn, 1) := by decide +kernel
theorem dX2_fact_56 : decode cX2_fact 56 = .ok (.aload_n 0, 1) := by decide +kernel
theorem dX2_fact_57 : decode cX2_fact 57 = .ok (.getfield 21, 3) := by decide +kernel
theorem dX2_fact_60 : decode cX2_fact 60 = .ok (.iload_n 1, 1) := by decide +kernel
theorem dX2_fact_61 : decode cX2_fact 61 = .ok (.iaload, 1) := by decide +kernel
theorem dX2_fact_62 : decode cX2_fact 62 = .ok (.i2l, 1) := by decide +kernel
theorem dX2_fact_63 : decode cX2_fact 63 = .ok (.lreturn, 1) := by decide +kernel
theorem dX2_fact_64 : decode cX2_fact 64 = .ok (.aload_n 0, 1) := by decide +kernel
theorem dX2_fact_65 : decode cX2_fact 65 = .ok (.getfield 24, 3) := by decide +kernel
theorem dX2_fact_68 : decode cX2_fact 68 = .ok (.iload_n 1, 1) := by decide +kernel
theorem dX2_fact_69 : decode cX2_fact 69 = .ok (.laload, 1) := by decide +kernel
theorem dX2_fact_70 : decode cX2_fact 70 = .ok (.lreturn, 1) := by decide +kernel
theorem dX2_firstWrong_0 : decode cX2_firstWrong 0 = .ok (.ldc2_w 32, 3) := by decide +kernel
theorem dX2_firstWrong_3 : decode cX2_firstWrong 3 = .ok (.lstore 4, 2) := by decide +kernel
theorem dX2_firstWrong_5 : decode cX2_firstWrong 5 = .ok (.aload_n 2, 1) := by decide +kernel
theorem dX2_firstWrong_6 : decode cX2_firstWrong 6 = .ok (.getfield 34, 3) := by decide +kernel
theorem dX2_firstWrong_9 : decode cX2_firstWrong 9 = .ok (.istore 6, 2) := by decide +kernel
theorem dX2_firstWrong_11 : decode cX2_firstWrong 11 = .ok (.aload_n 0, 1) := by decide +kernel
theorem dX2_firstWrong_12 : decode cX2_firstWrong 12 = .ok (.getfield 28, 3) := by decide +kernel
theorem dX2_firstWrong_15 : decode cX2_firstWrong 15 = .ok (.iconst 1, 1) := by decide +kernel
theorem dX2_firstWrong_16 : decode cX2_firstWrong 16 = .ok (.isub, 1) := by decide +kernel
theorem dX2_firstWrong_17 : decode cX2_firstWrong 17 = .ok (.istore 7, 2) := by decide +kernel
theorem dX2_firstWrong_19 : decode cX2_firstWrong 19 = .ok (.iload 7, 2) := by decide +kernel
theorem dX2_firstWrong_21 : decode cX2_firstWrong 21 = .ok (.ifCond .lt 96, 3) := by decide +kernel
theorem dX2_firstWrong_24 : decode cX2_firstWrong 24 = .ok (.aload_n 0, 1) := by decide +kernel
theorem dX2_firstWrong_25 : decode cX2_firstWrong 25 = .ok (.getfield 9, 3) := by decide +kernel
theorem dX2_firstWrong_28 : decode cX2_firstWrong 28 = .ok (.iload 7, 2) := by decide +kernel
theorem dX2_firstWrong_30 : decode cX2_firstWrong 30 = .ok (.iaload, 1) := by decide +kernel
theorem dX2_firstWrong_31 : decode cX2_firstWrong 31 = .ok (.iload_n 1, 1) := by decide +kernel
theorem dX2_firstWrong_32 : decode cX2_firstWrong 32 = .ok (.if_icmp .ne 79, 3) := by decide +kernel
theorem dX2_firstWrong_35 : decode cX2_firstWrong 35 = .ok (.iload 6, 2) := by decide +kernel
theorem dX2_firstWrong_37 : decode cX2_firstWrong 37 = .ok (.aload_n 0, 1) := by decide +kernel
theorem dX2_firstWrong_38 : decode cX2_firstWrong 38 = .ok (.getfield 21, 3) := by decide +kernel
theorem dX2_firstWrong_41 : decode cX2_firstWrong 41 = .ok (.iload 7, 2) := by decide +kernel
theorem dX2_firstWrong_43 : decode cX2_firstWrong 43 = .ok (.iaload, 1) := by decide +kernel
theorem dX2_firstWrong_44 : decode cX2_firstWrong 44 = .ok (.isub, 1) := by decide +kernel
theorem dX2_firstWrong_45 : decode cX2_firstWrong 45 = .ok (.istore 6, 2) := by decide +kernel
theorem dX2_firstWrong_47 : decode cX2_firstWrong 47 = .ok (.aload_n 2, 1) := by decide +kernel
theorem dX2_firstWrong_48 : decode cX2_firstWrong 48 = .ok (.aload_n 0, 1) := by decide +kernel
theorem dX2_firstWrong_49 : decode cX2_firstWrong 49 = .ok (.getfield 21, 3) := by decide +kernel
theorem dX2_firstWrong_52 : decode cX2_firstWrong 52 = .ok (.iload 7, 2) := by decide +kernel
theorem dX2_firstWrong_54 : decode cX2_firstWrong 54 = .ok (.iaload, 1) := by decide +kernel
theorem dX2_firstWrong_55 : decode cX2_firstWrong 55 = .ok (.aload_n 3, 1) := by decide +kernel
theorem dX2_firstWrong_56 : decode cX2_firstWrong 56 = .ok (.aload_n 0, 1) := by decide +kernel
theorem dX2_firstWrong_57 : decode cX2_firstWrong 57 = .ok (.getfield 15, 3) := by decide +kernel
theorem dX2_firstWrong_60 : decode cX2_firstWrong 60 = .ok (.iload 7, 2) := by decide +kernel
theorem dX2_firstWrong_62 : decode cX2_firstWrong 62 = .ok (.iaload, 1) := by decide +kernel
theorem dX2_firstWrong_63 : decode cX2_firstWrong 63 = .ok (.aaload, 1) := by decide +kernel
theorem dX2_firstWrong_64 : decode cX2_firstWrong 64 = .ok (.aload_n 0, 1) := by decide +kernel
theorem dX2_firstWrong_65 : decode cX2_firstWrong 65 = .ok (.getfield 18, 3) := by decide +kernel
theorem dX2_firstWrong_68 : decode cX2_firstWrong 68 = .ok (.iload 7, 2) := by decide +kernel
theorem dX2_firstWrong_70 : decode cX2_firstWrong 70 = .ok (.iaload, 1) := by decide +kernel
theorem dX2_firstWrong_71 : decode cX2_firstWrong 71 = .ok (.invokevirtual 39, 3) := by decide +kernel
theorem dX2_firstWrong_74 : decode cX2_firstWrong 74 = .ok (.i2l, 1) := by decide +kernel
theorem dX2_firstWrong_75 : decode cX2_firstWrong 75 = .ok (.invokevirtual 45, 3) := by decide +kernel
theorem dX2_firstWrong_78 : decode cX2_firstWrong 78 = .ok (.lstore 8, 2) := by decide +kernel
theorem dX2_firstWrong_80 : decode cX2_firstWrong 80 = .ok (.aload_n 0, 1) := by decide +kernel
theorem dX2_firstWrong_81 : decode cX2_firstWrong 81 = .ok (.getfield 24, 3) := by decide +kernel
theorem dX2_firstWrong_84 : decode cX2_firstWrong 84 = .ok (.iload 7, 2) := by decide +kernel
theorem dX2_firstWrong_86 : decode cX2_firstWrong 86 = .ok (.laload, 1) := by decide +kernel
theorem dX2_firstWrong_87 : decode cX2_firstWrong 87 = .ok (.lload 8, 2) := by decide +kernel
theorem dX2_firstWrong_89 : decode cX2_firstWrong 89 = .ok (.lcmp, 1) := by decide +kernel
theorem dX2_firstWrong_90 : decode cX2_firstWrong 90 = .ok (.ifCond .ne 16, 3) := by decide +kernel
theorem dX2_firstWrong_93 : decode cX2_firstWrong 93 = .ok (.iload 6, 2) := by decide +kernel
theorem dX2_firstWrong_95 : decode cX2_firstWrong 95 = .ok (.iconst 0, 1) := by decide +kernel
theorem dX2_firstWrong_96 : decode cX2_firstWrong 96 = .ok (.aload_n 2, 1) := by decide +kernel
theorem dX2_firstWrong_97 : decode cX2_firstWrong 97 = .ok (.getfield 49, 3) := by decide +kernel
theorem dX2_firstWrong_100 : decode cX2_firstWrong 100 = .ok (.invokestatic 52, 3) := by decide +kernel
theorem dX2_firstWrong_103 : decode cX2_firstWrong 103 = .ok (.ifCond .ne 8, 3) := by decide +kernel
theorem dX2_firstWrong_106 : decode cX2_firstWrong 106 = .ok (.iload 7, 2) := by decide +kernel
theorem dX2_firstWrong_108 : decode cX2_firstWrong 108 = .ok (.i2l, 1) := by decide +kernel
theorem dX2_firstWrong_109 : decode cX2_firstWrong 109 = .ok (.lstore 4, 2) := by decide +kernel
theorem dX2_firstWrong_111 : decode cX2_firstWrong 111 = .ok (.iinc 7 (-1), 3) := by decide +kernel
theorem dX2_firstWrong_114 : decode cX2_firstWrong 114 = .ok (.goto (-95), 3) := by decide +kernel
theorem dX2_firstWrong_117 : decode cX2_firstWrong 117 = .ok (.lload 4, 2) := by decide +kernel
theorem dX2_firstWrong_119 : decode cX2_firstWrong 119 = .ok (.lreturn, 1) := by decide +kernel
theorem dX2_firstBeyond_0 : decode cX2_firstBeyond 0 = .ok (.iconst 0, 1) := by decide +kernel
theorem dX2_firstBeyond_1 : decode cX2_firstBeyond 1 = .ok (.istore_n 3, 1) := by decide +kernel
theorem dX2_firstBeyond_2 : decode cX2_firstBeyond 2 = .ok (.iconst 0, 1) := by decide +kernel
theorem dX2_firstBeyond_3 : decode cX2_firstBeyond 3 = .ok (.istore 4, 2) := by decide +kernel
theorem dX2_firstBeyond_5 : decode cX2_firstBeyond 5 = .ok (.iload 4, 2) := by decide +kernel
theorem dX2_firstBeyond_7 : decode cX2_firstBeyond 7 = .ok (.aload_n 0, 1) := by decide +kernel
theorem dX2_firstBeyond_8 : decode cX2_firstBeyond 8 = .ok (.getfield 28, 3) := by decide +kernel
theorem dX2_firstBeyond_11 : decode cX2_firstBeyond 11 = .ok (.if_icmp .ge 42, 3) := by decide +kernel
theorem dX2_firstBeyond_14 : decode cX2_firstBeyond 14 = .ok (.aload_n 0, 1) := by decide +kernel
theorem dX2_firstBeyond_15 : decode cX2_firstBeyond 15 = .ok (.getfield 9, 3) := by decide +kernel
theorem dX2_firstBeyond_18 : decode cX2_firstBeyond 18 = .ok (.iload 4, 2) := by decide +kernel
theorem dX2_firstBeyond_20 : decode cX2_firstBeyond 20 = .ok (.iaload, 1) := by decide +kernel
theorem dX2_firstBeyond_21 : decode cX2_firstBeyond 21 = .ok (.iload_n 1, 1) := by decide +kernel
theorem dX2_firstBeyond_22 : decode cX2_firstBeyond 22 = .ok (.if_icmp .ne 25, 3) := by decide +kernel
theorem dX2_firstBeyond_25 : decode cX2_firstBeyond 25 = .ok (.iload_n 3, 1) := by decide +kernel
theorem dX2_firstBeyond_26 : decode cX2_firstBeyond 26 = .ok (.aload_n 0, 1) := by decide +kernel
theorem dX2_firstBeyond_27 : decode cX2_firstBeyond 27 = .ok (.getfield 21, 3) := by decide +kernel
theorem dX2_firstBeyond_30 : decode cX2_firstBeyond 30 = .ok (.iload 4, 2) := by decide +kernel
theorem dX2_firstBeyond_32 : decode cX2_firstBeyond 32 = .ok (.iaload, 1) := by decide +kernel
theorem dX2_firstBeyond_33 : decode cX2_firstBeyond 33 = .ok (.invokestatic 56, 3) := by decide +kernel
theorem dX2_firstBeyond_36 : decode cX2_firstBeyond 36 = .ok (.iadd, 1) := by decide +kernel
theorem dX2_firstBeyond_37 : decode cX2_firstBeyond 37 = .ok (.istore_n 3, 1) := by decide +kernel
theorem dX2_firstBeyond_38 : decode cX2_firstBeyond 38 = .ok (.iload_n 3, 1) := by decide +kernel
theorem dX2_firstBeyond_39 : decode cX2_firstBeyond 39 = .ok (.iload_n 2, 1) := by decide +kernel
theorem dX2_firstBeyond_40 : decode cX2_firstBeyond 40 = .ok (.if_icmp .le 7, 3) := by decide +kernel
theorem dX2_firstBeyond_43 : decode cX2_firstBeyond 43 = .ok (.iload 4, 2) := by decide +kernel
theorem dX2_firstBeyond_45 : decode cX2_firstBeyond 45 = .ok (.i2l, 1) := by decide +kernel
theorem dX2_firstBeyond_46 : decode cX2_firstBeyond 46 = .ok (.lreturn, 1) := by decide +kernel
theorem dX2_firstBeyond_47 : decode cX2_firstBeyond 47 = .ok (.iinc 4 1, 3) := by decide +kernel
theorem dX2_firstBeyond_50 : decode cX2_firstBeyond 50 = .ok (.goto (-45), 3) := by decide +kernel
theorem dX2_firstBeyond_53 : decode cX2_firstBeyond 53 = .ok (.ldc2_w 32, 3) := by decide +kernel
theorem dX2_firstBeyond_56 : decode cX2_firstBeyond 56 = .ok (.lreturn, 1) := by decide +kernel
theorem dX2_allMoney_0 : decode cX2_allMoney 0 = .ok (.lconst 0, 1) := by decide +kernel
theorem dX2_allMoney_1 : decode cX2_allMoney 1 = .ok (.lstore_n 1, 1) := by decide +kernel
theorem dX2_allMoney_2 : decode cX2_allMoney 2 = .ok (.iconst 0, 1) := by decide +kernel
theorem dX2_allMoney_3 : decode cX2_allMoney 3 = .ok (.istore_n 3, 1) := by decide +kernel
theorem dX2_allMoney_4 : decode cX2_allMoney 4 = .ok (.iload_n 3, 1) := by decide +kernel
theorem dX2_allMoney_5 : decode cX2_allMoney 5 = .ok (.aload_n 0, 1) := by decide +kernel
theorem dX2_allMoney_6 : decode cX2_allMoney 6 = .ok (.getfield 28, 3) := by decide +kernel
theorem dX2_allMoney_9 : decode cX2_allMoney 9 = .ok (.if_icmp .ge 18, 3) := by decide +kernel
theorem dX2_allMoney_12 : decode cX2_allMoney 12 = .ok (.lload_n 1, 1) := by decide +kernel
theorem dX2_allMoney_13 : decode cX2_allMoney 13 = .ok (.aload_n 0, 1) := by decide +kernel
theorem dX2_allMoney_14 : decode cX2_allMoney 14 = .ok (.getfield 24, 3) := by decide +kernel
theorem dX2_allMoney_17 : decode cX2_allMoney 17 = .ok (.iload_n 3, 1) := by decide +kernel
theorem dX2_allMoney_18 : decode cX2_allMoney 18 = .ok (.laload, 1) := by decide +kernel
theorem dX2_allMoney_19 : decode cX2_allMoney 19 = .ok (.ladd, 1) := by decide +kernel
theorem dX2_allMoney_20 : decode cX2_allMoney 20 = .ok (.lstore_n 1, 1) := by decide +kernel
theorem dX2_allMoney_21 : decode cX2_allMoney 21 = .ok (.iinc 3 1, 3) := by decide +kernel
theorem dX2_allMoney_24 : decode cX2_allMoney 24 = .ok (.goto (-20), 3) := by decide +kernel
theorem dX2_allMoney_27 : decode cX2_allMoney 27 = .ok (.lload_n 1, 1) := by decide +kernel
theorem dX2_allMoney_28 : decode cX2_allMoney 28 = .ok (.lreturn, 1) := by decide +kernel
theorem dX3_init_0 : decode cX3_init 0 = .ok (.aload_n 0, 1) := by decide +kernel
theorem dX3_init_1 : decode cX3_init 1 = .ok (.invokespecial 3, 3) := by decide +kernel
theorem dX3_init_4 : decode cX3_init 4 = .ok (.aload_n 0, 1) := by decide +kernel
theorem dX3_init_5 : decode cX3_init 5 = .ok (.bipush 24, 2) := by decide +kernel
theorem dX3_init_7 : decode cX3_init 7 = .ok (.putfield 9, 3) := by decide +kernel
theorem dX3_init_10 : decode cX3_init 10 = .ok (.aload_n 0, 1) := by decide +kernel
theorem dX3_init_11 : decode cX3_init 11 = .ok (.bipush 36, 2) := by decide +kernel
theorem dX3_init_13 : decode cX3_init 13 = .ok (.newarray .boolean, 2) := by decide +kernel
theorem dX3_init_15 : decode cX3_init 15 = .ok (.putfield 15, 3) := by decide +kernel
theorem dX3_init_18 : decode cX3_init 18 = .ok (.aload_n 0, 1) := by decide +kernel
theorem dX3_init_19 : decode cX3_init 19 = .ok (.bipush 36, 2) := by decide +kernel
theorem dX3_init_21 : decode cX3_init 21 = .ok (.newarray .int, 2) := by decide +kernel
theorem dX3_init_23 : decode cX3_init 23 = .ok (.putfield 19, 3) := by decide +kernel
theorem dX3_init_26 : decode cX3_init 26 = .ok (.return_, 1) := by decide +kernel
theorem dX3_keptBack_0 : decode cX3_keptBack 0 = .ok (.aload_n 0, 1) := by decide +kernel
theorem dX3_keptBack_1 : decode cX3_keptBack 1 = .ok (.getfield 15, 3) := by decide +kernel
theorem dX3_keptBack_4 : decode cX3_keptBack 4 = .ok (.iload_n 1, 1) := by decide +kernel
theorem dX3_keptBack_5 : decode cX3_keptBack 5 = .ok (.baload, 1) := by decide +kernel
theorem dX3_keptBack_6 : decode cX3_keptBack 6 = .ok (.ifCond .eq 7, 3) := by decide +kernel
theorem dX3_keptBack_9 : decode cX3_keptBack 9 = .ok (.iconst 0, 1) := by decide +kernel
theorem dX3_keptBack_10 : decode cX3_keptBack 10 = .ok (.goto 9, 3) := by decide +kernel
theorem dX3_keptBack_13 : decode cX3_keptBack 13 = .ok (.aload_n 0, 1) := by decide +kernel
theorem dX3_keptBack_14 : decode cX3_keptBack 14 = .ok (.getfield 19, 3) := by decide +kernel
theorem dX3_keptBack_17 : decode cX3_keptBack 17 = .ok (.iload_n 1, 1) := by decide +kernel
theorem dX3_keptBack_18 : decode cX3_keptBack 18 = .ok (.iaload, 1) := by decide +kernel
theorem dX3_keptBack_19 : decode cX3_keptBack 19 = .ok (.ireturn, 1) := by decide +kernel
theorem dX3_darkSteps_0 : decode cX3_darkSteps 0 = .ok (.iconst 0, 1) := by decide +kernel
theorem dX3_darkSteps_1 : decode cX3_darkSteps 1 = .ok (.istore_n 1, 1) := by decide +kernel
theorem dX3_darkSteps_2 : decode cX3_darkSteps 2 = .ok (.iconst 0, 1) := by decide +kernel
theorem dX3_darkSteps_3 : decode cX3_darkSteps 3 = .ok (.istore_n 2, 1) := by decide +kernel
theorem dX3_darkSteps_4 : decode cX3_darkSteps 4 = .ok (.iload_n 2, 1) := by decide +kernel
theorem dX3_darkSteps_5 : decode cX3_darkSteps 5 = .ok (.aload_n 0, 1) := by decide +kernel
theorem dX3_darkSteps_6 : decode cX3_darkSteps 6 = .ok (.getfield 9, 3) := by decide +kernel
theorem dX3_darkSteps_9 : decode cX3_darkSteps 9 = .ok (.if_icmp .ge 26, 3) := by decide +kernel
theorem dX3_darkSteps_12 : decode cX3_darkSteps 12 = .ok (.iload_n 1, 1) := by decide +kernel
theorem dX3_darkSteps_13 : decode cX3_darkSteps 13 = .ok (.aload_n 0, 1) := by decide +kernel
theorem dX3_darkSteps_14 : decode cX3_darkSteps 14 = .ok (.getfield 15, 3) := by decide +kernel
theorem dX3_darkSteps_17 : decode cX3_darkSteps 17 = .ok (.iload_n 2, 1) := by decide +kernel
theorem dX3_darkSteps_18 : decode cX3_darkSteps 18 = .ok (.baload, 1) := by decide +kernel
theorem dX3_darkSteps_19 : decode cX3_darkSteps 19 = .ok (.ifCond .eq 7, 3) := by decide +kernel
theorem dX3_darkSteps_22 : decode cX3_darkSteps 22 = .ok (.iconst 1, 1) := by decide +kernel
theorem dX3_darkSteps_23 : decode cX3_darkSteps 23 = .ok (.goto 4, 3) := by decide +kernel
theorem dX3_darkSteps_26 : decode cX3_darkSteps 26 = .ok (.iconst 0, 1) := by decide +kernel
theorem dX3_darkSteps_27 : decode cX3_darkSteps 27 = .ok (.iadd, 1) := by decide +kernel
theorem dX3_darkSteps_28 : decode cX3_darkSteps 28 = .ok (.istore_n 1, 1) := by decide +kernel
theorem dX3_darkSteps_29 : decode cX3_darkSteps 29 = .ok (.iinc 2 1, 3) := by decide +kernel
theorem dX3_darkSteps_32 : decode cX3_darkSteps 32 = .ok (.goto (-28), 3) := by decide +kernel
theorem dX3_darkSteps_35 : decode cX3_darkSteps 35 = .ok (.iload_n 1, 1) := by decide +kernel
theorem dX3_darkSteps_36 : decode cX3_darkSteps 36 = .ok (.ireturn, 1) := by decide +kernel
theorem dX3_allowsMove_0 : decode cX3_allowsMove 0 = .ok (.iload_n 3, 1) := by decide +kernel
theorem dX3_allowsMove_1 : decode cX3_allowsMove 1 = .ok (.ifCond .eq 25, 3) := by decide +kernel
theorem dX3_allowsMove_4 : decode cX3_allowsMove 4 = .ok (.aload_n 0, 1) := by decide +kernel
theorem dX3_allowsMove_5 : decode cX3_allowsMove 5 = .ok (.getfield 15, 3) := by decide +kernel
theorem dX3_allowsMove_8 : decode cX3_allowsMove 8 = .ok (.iload_n 2, 1) := by decide +kernel
theorem dX3_allowsMove_9 : decode cX3_allowsMove 9 = .ok (.baload, 1) := by decide +kernel
theorem dX3_allowsMove_10 : decode cX3_allowsMove 10 = .ok (.ifCond .ne 20, 3) := by decide +kernel
theorem dX3_allowsMove_13 : decode cX3_allowsMove 13 = .ok (.aload_n 1, 1) := by decide +kernel
theorem dX3_allowsMove_14 : decode cX3_allowsMove 14 = .ok (.iload_n 3, 1) := by decide +kernel
theorem dX3_allowsMove_15 : decode cX3_allowsMove 15 = .ok (.aload_n 0, 1) := by decide +kernel
theorem dX3_allowsMove_16 : decode cX3_allowsMove 16 = .ok (.iload_n 2, 1) := by decide +kernel
theorem dX3_allowsMove_17 : decode cX3_allowsMove 17 = .ok (.invokevirtual 23, 3) := by decide +kernel
theorem dX3_allowsMove_20 : decode cX3_allowsMove 20 = .ok (.invokevirtual 27, 3) := by decide +kernel
theorem dX3_allowsMove_23 : decode cX3_allowsMove 23 = .ok (.ifCond .eq 7, 3) := by decide +kernel
theorem dX3_allowsMove_26 : decode cX3_allowsMove 26 = .ok (.iconst 1, 1) := by decide +kernel
theorem dX3_allowsMove_27 : decode cX3_allowsMove 27 = .ok (.goto 4, 3) := by decide +kernel
theorem dX3_allowsMove_30 : decode cX3_allowsMove 30 = .ok (.iconst 0, 1) := by decide +kernel
theorem dX3_allowsMove_31 : decode cX3_allowsMove 31 = .ok (.ireturn, 1) := by decide +kernel
theorem dX3_firstFault_0 : decode cX3_firstFault 0 = .ok (.aload_n 1, 1) := by decide +kernel
theorem dX3_firstFault_1 : decode cX3_firstFault 1 = .ok (.getfield 33, 3) := by decide +kernel
theorem dX3_firstFault_4 : decode cX3_firstFault 4 = .ok (.istore_n 2, 1) := by decide +kernel
theorem dX3_firstFault_5 : decode cX3_firstFault 5 = .ok (.iconst 0, 1) := by decide +kernel
theorem dX3_firstFault_6 : decode cX3_firstFault 6 = .ok (.istore_n 3, 1) := by decide +kernel
theorem dX3_firstFault_7 : decode cX3_firstFault 7 = .ok (.iload_n 3, 1) := by decide +kernel
theorem dX3_firstFault_8 : decode cX3_firstFault 8 = .ok (.aload_n 0, 1) := by decide +kernel
theorem dX3_firstFault_9 : decode cX3_firstFault 9 = .ok (.getfield 9, 3) := by decide +kernel
theorem dX3_firstFault_12 : decode cX3_firstFault 12 = .ok (.if_icmp .ge 41, 3) := by decide +kernel
theorem dX3_firstFault_15 : decode cX3_firstFault 15 = .ok (.iload_n 2, 1) := by decide +kernel
theorem dX3_firstFault_16 : decode cX3_firstFault 16 = .ok (.aload_n 1, 1) := by decide +kernel
theorem dX3_firstFault_17 : decode cX3_firstFault 17 = .ok (.getfield 36, 3) := by decide +kernel
theorem dX3_firstFault_20 : decode cX3_firstFault 20 = .ok (.iload_n 3, 1) := by decide +kernel
theorem dX3_firstFault_21 : decode cX3_firstFault 21 = .ok (.iaload, 1) := by decide +kernel
theorem dX3_firstFault_22 : decode cX3_firstFault 22 = .ok (.iadd, 1) := by decide +kernel
theorem dX3_firstFault_23 : decode cX3_firstFault 23 = .ok (.istore_n 2, 1) := by decide +kernel
theorem dX3_firstFault_24 : decode cX3_firstFault 24 = .ok (.aload_n 0, 1) := by decide +kernel
theorem dX3_firstFault_25 : decode cX3_firstFault 25 = .ok (.aload_n 1, 1) := by decide +kernel
theorem dX3_firstFault_26 : decode cX3_firstFault 26 = .ok (.iload_n 3, 1) := by decide +kernel
theorem dX3_firstFault_27 : decode cX3_firstFault 27 = .ok (.iload_n 2, 1) := by decide +kernel
theorem dX3_firstFault_28 : decode cX3_firstFault 28 = .ok (.invokevirtual 39, 3) := by decide +kernel
theorem dX3_firstFault_31 : decode cX3_firstFault 31 = .ok (.istore 4, 2) := by decide +kernel
theorem dX3_firstFault_33 : decode cX3_firstFault 33 = .ok (.iload 4, 2) := by decide +kernel
theorem dX3_firstFault_35 : decode cX3_firstFault 35 = .ok (.ifCond .eq 12, 3) := by decide +kernel
theorem dX3_firstFault_38 : decode cX3_firstFault 38 = .ok (.bipush 10, 2) := by decide +kernel
theorem dX3_firstFault_40 : decode cX3_firstFault 40 = .ok (.iload_n 3, 1) := by decide +kernel
theorem dX3_firstFault_41 : decode cX3_firstFault 41 = .ok (.imul, 1) := by decide +kernel
theorem dX3_firstFault_42 : decode cX3_firstFault 42 = .ok (.iload 4, 2) := by decide +kernel
theorem dX3_firstFault_44 : decode cX3_firstFault 44 = .ok (.iadd, 1) := by decide +kernel
theorem dX3_firstFault_45 : decode cX3_firstFault 45 = .ok (.i2l, 1) := by decide +kernel
theorem dX3_firstFault_46 : decode cX3_firstFault 46 = .ok (.lreturn, 1) := by decide +kernel
theorem dX3_firstFault_47 : decode cX3_firstFault 47 = .ok (.iinc 3 1, 3) := by decide +kernel
theorem dX3_firstFault_50 : decode cX3_firstFault 50 = .ok (.goto (-43), 3) := by decide +kernel
theorem dX3_firstFault_53 : decode cX3_firstFault 53 = .ok (.ldc2_w 43, 3) := by decide +kernel
theorem dX3_firstFault_56 : decode cX3_firstFault 56 = .ok (.lreturn, 1) := by decide +kernel
theorem dX3_faultAt_0 : decode cX3_faultAt 0 = .ok (.aload_n 0, 1) := by decide +kernel
theorem dX3_faultAt_1 : decode cX3_faultAt 1 = .ok (.aload_n 1, 1) := by decide +kernel
theorem dX3_faultAt_2 : decode cX3_faultAt 2 = .ok (.iload_n 2, 1) := by decide +kernel
theorem dX3_faultAt_3 : decode cX3_faultAt 3 = .ok (.aload_n 1, 1) := by decide +kernel
theorem dX3_faultAt_4 : decode cX3_faultAt 4 = .ok (.getfield 36, 3) := by decide +kernel
theorem dX3_faultAt_7 : decode cX3_faultAt 7 = .ok (.iload_n 2, 1) := by decide +kernel
theorem dX3_faultAt_8 : decode cX3_faultAt 8 = .ok (.iaload, 1) := by decide +kernel
theorem dX3_faultAt_9 : decode cX3_faultAt 9 = .ok (.invokevirtual 45, 3) := by decide +kernel
theorem dX3_faultAt_12 : decode cX3_faultAt 12 = .ok (.ifCond .ne 18, 3) := by decide +kernel
theorem dX3_faultAt_15 : decode cX3_faultAt 15 = .ok (.aload_n 0, 1) := by decide +kernel
theorem dX3_faultAt_16 : decode cX3_faultAt 16 = .ok (.getfield 15, 3) := by decide +kernel
theorem dX3_faultAt_19 : decode cX3_faultAt 19 = .ok (.iload_n 2, 1) := by decide +kernel
theorem dX3_faultAt_20 : decode cX3_faultAt 20 = .ok (.baload, 1) := by decide +kernel
theorem dX3_faultAt_21 : decode cX3_faultAt 21 = .ok (.ifCond .eq 7, 3) := by decide +kernel
theorem dX3_faultAt_24 : decode cX3_faultAt 24 = .ok (.iconst 1, 1) := by decide +kernel
theorem dX3_faultAt_25 : decode cX3_faultAt 25 = .ok (.goto 4, 3) := by decide +kernel
theorem dX3_faultAt_28 : decode cX3_faultAt 28 = .ok (.iconst 2, 1) := by decide +kernel
theorem dX3_faultAt_29 : decode cX3_faultAt 29 = .ok (.ireturn, 1) := by decide +kernel
theorem dX3_faultAt_30 : decode cX3_faultAt 30 = .ok (.iload_n 3, 1) := by decide +kernel
theorem dX3_faultAt_31 : decode cX3_faultAt 31 = .ok (.aload_n 1, 1) := by decide +kernel
theorem dX3_faultAt_32 : decode cX3_faultAt 32 = .ok (.getfield 49, 3) := by decide +kernel
theorem dX3_faultAt_35 : decode cX3_faultAt 35 = .ok (.aload_n 0, 1) := by decide +kernel
theorem dX3_faultAt_36 : decode cX3_faultAt 36 = .ok (.iload_n 2, 1) := by decide +kernel
theorem dX3_faultAt_37 : decode cX3_faultAt 37 = .ok (.invokevirtual 23, 3) := by decide +kernel
theorem dX3_faultAt_40 : decode cX3_faultAt 40 = .ok (.iadd, 1) := by decide +kernel
theorem dX3_faultAt_41 : decode cX3_faultAt 41 = .ok (.if_icmp .ge 5, 3) := by decide +kernel
theorem dX3_faultAt_44 : decode cX3_faultAt 44 = .ok (.iconst 3, 1) := by decide +kernel
theorem dX3_faultAt_45 : decode cX3_faultAt 45 = .ok (.ireturn, 1) := by decide +kernel
theorem dX3_faultAt_46 : decode cX3_faultAt 46 = .ok (.iload_n 3, 1) := by decide +kernel
theorem dX3_faultAt_47 : decode cX3_faultAt 47 = .ok (.aload_n 1, 1) := by decide +kernel
theorem dX3_faultAt_48 : decode cX3_faultAt 48 = .ok (.getfield 52, 3) := by decide +kernel
theorem dX3_faultAt_51 : decode cX3_faultAt 51 = .ok (.aload_n 0, 1) := by decide +kernel
theorem dX3_faultAt_52 : decode cX3_faultAt 52 = .ok (.iload_n 2, 1) := by decide +kernel
theorem dX3_faultAt_53 : decode cX3_faultAt 53 = .ok (.invokevirtual 23, 3) := by decide +kernel
theorem dX3_faultAt_56 : decode cX3_faultAt 56 = .ok (.isub, 1) := by decide +kernel
theorem dX3_faultAt_57 : decode cX3_faultAt 57 = .ok (.if_icmp .le 5, 3) := by decide +kernel
theorem dX3_faultAt_60 : decode cX3_faultAt 60 = .ok (.iconst 4, 1) := by decide +kernel
theorem dX3_faultAt_61 : decode cX3_faultAt 61 = .ok (.ireturn, 1) := by decide +kernel
theorem dX3_faultAt_62 : decode cX3_faultAt 62 = .ok (.iload_n 2, 1) := by decide +kernel
theorem dX3_faultAt_63 : decode cX3_faultAt 63 = .ok (.aload_n 0, 1) := by decide +kernel
theorem dX3_faultAt_64 : decode cX3_faultAt 64 = .ok (.getfield 9, 3) := by decide +kernel
theorem dX3_faultAt_67 : decode cX3_faultAt 67 = .ok (.iconst 1, 1) := by decide +kernel
theorem dX3_faultAt_68 : decode cX3_faultAt 68 = .ok (.isub, 1) := by decide +kernel
theorem dX3_faultAt_69 : decode cX3_faultAt 69 = .ok (.if_icmp .ne 15, 3) := by decide +kernel
theorem dX3_faultAt_72 : decode cX3_faultAt 72 = .ok (.iload_n 3, 1) := by decide +kernel
theorem dX3_faultAt_73 : decode cX3_faultAt 73 = .ok (.aload_n 1, 1) := by decide +kernel
theorem dX3_faultAt_74 : decode cX3_faultAt 74 = .ok (.getfield 55, 3) := by decide +kernel
theorem dX3_faultAt_77 : decode cX3_faultAt 77 = .ok (.if_icmp .ge 7, 3) := by decide +kernel
theorem dX3_faultAt_80 : decode cX3_faultAt 80 = .ok (.iconst 5, 1) := by decide +kernel
theorem dX3_faultAt_81 : decode cX3_faultAt 81 = .ok (.goto 4, 3) := by decide +kernel
theorem dX3_faultAt_84 : decode cX3_faultAt 84 = .ok (.iconst 0, 1) := by decide +kernel
theorem dX3_faultAt_85 : decode cX3_faultAt 85 = .ok (.ireturn, 1) := by decide +kernel
theorem dX4_init_0 : decode cX4_init 0 = .ok (.aload_n 0, 1) := by decide +kernel
theorem dX4_init_1 : decode cX4_init 1 = .ok (.invokespecial 3, 3) := by decide +kernel
theorem dX4_init_4 : decode cX4_init 4 = .ok (.aload_n 0, 1) := by decide +kernel
theorem dX4_init_5 : decode cX4_init 5 = .ok (.bipush 36, 2) := by decide +kernel
theorem dX4_init_7 : decode cX4_init 7 = .ok (.newarray .int, 2) := by decide +kernel
theorem dX4_init_9 : decode cX4_init 9 = .ok (.putfield 9, 3) := by decide +kernel
theorem dX4_init_12 : decode cX4_init 12 = .ok (.aload_n 0, 1) := by decide +kernel
theorem dX4_init_13 : decode cX4_init 13 = .ok (.getfield 9, 3) := by decide +kernel
theorem dX4_init_16 : decode cX4_init 16 = .ok (.sipush (-1001), 3) := by decide +kernel
theorem dX4_init_19 : decode cX4_init 19 = .ok (.invokestatic 15, 3) := by decide +kernel
theorem dX4_init_22 : decode cX4_init 22 = .ok (.return_, 1) := by decide +kernel
theorem dX4_readingsThere_0 : decode cX4_readingsThere 0 = .ok (.iconst 0, 1) := by decide +kernel
theorem dX4_readingsThere_1 : decode cX4_readingsThere 1 = .ok (.istore_n 1, 1) := by decide +kernel
theorem dX4_readingsThere_2 : decode cX4_readingsThere 2 = .ok (.iconst 0, 1) := by decide +kernel
theorem dX4_readingsThere_3 : decode cX4_readingsThere 3 = .ok (.istore_n 2, 1) := by decide +kernel
theorem dX4_readingsThere_4 : decode cX4_readingsThere 4 = .ok (.iload_n 2, 1) := by decide +kernel
theorem dX4_readingsThere_5 : decode cX4_readingsThere 5 = .ok (.bipush 36, 2) := by decide +kernel
theorem dX4_readingsThere_7 : decode cX4_readingsThere 7 = .ok (.if_icmp .ge 29, 3) := by decide +kernel
theorem dX4_readingsThere_10 : decode cX4_readingsThere 10 = .ok (.iload_n 1, 1) := by decide +kernel
theorem dX4_readingsThere_11 : decode cX4_readingsThere 11 = .ok (.aload_n 0, 1) := by decide +kernel
theorem dX4_readingsThere_12 : decode cX4_readingsThere 12 = .ok (.getfield 9, 3) := by decide +kernel
theorem dX4_readingsThere_15 : decode cX4_readingsThere 15 = .ok (.iload_n 2, 1) := by decide +kernel
theorem dX4_readingsThere_16 : decode cX4_readingsThere 16 = .ok (.iaload, 1) := by decide +kernel
theorem dX4_readingsThere_17 : decode cX4_readingsThere 17 = .ok (.sipush (-1001), 3) := by decide +kernel
theorem dX4_readingsThere_20 : decode cX4_readingsThere 20 = .ok (.if_icmp .ne 7, 3) := by decide +kernel
theorem dX4_readingsThere_23 : decode cX4_readingsThere 23 = .ok (.iconst 0, 1) := by decide +kernel
theorem dX4_readingsThere_24 : decode cX4_readingsThere 24 = .ok (.goto 4, 3) := by decide +kernel
theorem dX4_readingsThere_27 : decode cX4_readingsThere 27 = .ok (.iconst 1, 1) := by decide +kernel
theorem dX4_readingsThere_28 : decode cX4_readingsThere 28 = .ok (.iadd, 1) := by decide +kernel
theorem dX4_readingsThere_29 : decode cX4_readingsThere 29 = .ok (.istore_n 1, 1) := by decide +kernel
theorem dX4_readingsThere_30 : decode cX4_readingsThere 30 = .ok (.iinc 2 1, 3) := by decide +kernel
theorem dX4_readingsThere_33 : decode cX4_readingsThere 33 = .ok (.goto (-29), 3) := by decide +kernel
theorem dX4_readingsThere_36 : decode cX4_readingsThere 36 = .ok (.iload_n 1, 1) := by decide +kernel
theorem dX4_readingsThere_37 : decode cX4_readingsThere 37 = .ok (.ireturn, 1) := by decide +kernel
theorem dX4_counting_0 : decode cX4_counting 0 = .ok (.aload_n 0, 1) := by decide +kernel
theorem dX4_counting_1 : decode cX4_counting 1 = .ok (.getfield 9, 3) := by decide +kernel
theorem dX4_counting_4 : decode cX4_counting 4 = .ok (.iload_n 1, 1) := by decide +kernel
theorem dX4_counting_5 : decode cX4_counting 5 = .ok (.iaload, 1) := by decide +kernel
theorem dX4_counting_6 : decode cX4_counting 6 = .ok (.sipush (-1001), 3) := by decide +kernel
theorem dX4_counting_9 : decode cX4_counting 9 = .ok (.if_icmp .eq 10, 3) := by decide +kernel
theorem dX4_counting_12 : decode cX4_counting 12 = .ok (.aload_n 0, 1) := by decide +kernel
theorem dX4_counting_13 : decode cX4_counting 13 = .ok (.getfield 9, 3) := by decide +kernel
theorem dX4_counting_16 : decode cX4_counting 16 = .ok (.iload_n 1, 1) := by decide +kernel
theorem dX4_counting_17 : decode cX4_counting 17 = .ok (.iaload, 1) := by decide +kernel
theorem dX4_counting_18 : decode cX4_counting 18 = .ok (.ireturn, 1) := by decide +kernel
theorem dX4_counting_19 : decode cX4_counting 19 = .ok (.aload_n 0, 1) := by decide +kernel
theorem dX4_counting_20 : decode cX4_counting 20 = .ok (.iload_n 1, 1) := by decide +kernel
theorem dX4_counting_21 : decode cX4_counting 21 = .ok (.invokevirtual 21, 3) := by decide +kernel
theorem dX4_counting_24 : decode cX4_counting 24 = .ok (.istore_n 2, 1) := by decide +kernel
theorem dX4_counting_25 : decode cX4_counting 25 = .ok (.aload_n 0, 1) := by decide +kernel
theorem dX4_counting_26 : decode cX4_counting 26 = .ok (.iload_n 1, 1) := by decide +kernel
theorem dX4_counting_27 : decode cX4_counting 27 = .ok (.invokevirtual 25, 3) := by decide +kernel
theorem dX4_counting_30 : decode cX4_counting 30 = .ok (.istore_n 3, 1) := by decide +kernel
theorem dX4_counting_31 : decode cX4_counting 31 = .ok (.iload_n 2, 1) := by decide +kernel
theorem dX4_counting_32 : decode cX4_counting 32 = .ok (.sipush (-1001), 3) := by decide +kernel
theorem dX4_counting_35 : decode cX4_counting 35 = .ok (.if_icmp .eq 18, 3) := by decide +kernel
theorem dX4_counting_38 : decode cX4_counting 38 = .ok (.iload_n 3, 1) := by decide +kernel
theorem dX4_counting_39 : decode cX4_counting 39 = .ok (.sipush (-1001), 3) := by decide +kernel
theorem dX4_counting_42 : decode cX4_counting 42 = .ok (.if_icmp .eq 11, 3) := by decide +kernel
theorem dX4_counting_45 : decode cX4_counting 45 = .ok (.iload_n 2, 1) := by decide +kernel
theorem dX4_counting_46 : decode cX4_counting 46 = .ok (.iload_n 3, 1) := by decide +kernel
theorem dX4_counting_47 : decode cX4_counting 47 = .ok (.iadd, 1) := by decide +kernel
theorem dX4_counting_48 : decode cX4_counting 48 = .ok (.iconst 2, 1) := by decide +kernel
theorem dX4_counting_49 : decode cX4_counting 49 = .ok (.invokestatic 28, 3) := by decide +kernel
theorem dX4_counting_52 : decode cX4_counting 52 = .ok (.ireturn, 1) := by decide +kernel
theorem dX4_counting_53 : decode cX4_counting 53 = .ok (.iload_n 2, 1) := by decide +kernel
theorem dX4_counting_54 : decode cX4_counting 54 = .ok (.sipush (-1001), 3) := by decide +kernel
theorem dX4_counting_57 : decode cX4_counting 57 = .ok (.if_icmp .ne 12, 3) := by decide +kernel
theorem dX4_counting_60 : decode cX4_counting 60 = .ok (.iload_n 3, 1) := by decide +kernel
theorem dX4_counting_61 : decode cX4_counting 61 = .ok (.sipush (-1001), 3) := by decide +kernel
theorem dX4_counting_64 : decode cX4_counting 64 = .ok (.if_icmp .ne 5, 3) := by decide +kernel
theorem dX4_counting_67 : decode cX4_counting 67 = .ok (.iconst 0, 1) := by decide +kernel
theorem dX4_counting_68 : decode cX4_counting 68 = .ok (.ireturn, 1) := by decide +kernel
theorem dX4_counting_69 : decode cX4_counting 69 = .ok (.iload_n 2, 1) := by decide +kernel
theorem dX4_counting_70 : decode cX4_counting 70 = .ok (.sipush (-1001), 3) := by decide +kernel
theorem dX4_counting_73 : decode cX4_counting 73 = .ok (.if_icmp .ne 7, 3) := by decide +kernel
theorem dX4_counting_76 : decode cX4_counting 76 = .ok (.iload_n 3, 1) := by decide +kernel
theorem dX4_counting_77 : decode cX4_counting 77 = .ok (.goto 4, 3) := by decide +kernel
theorem dX4_counting_80 : decode cX4_counting 80 = .ok (.iload_n 2, 1) := by decide +kernel
theorem dX4_counting_81 : decode cX4_counting 81 = .ok (.ireturn, 1) := by decide +kernel
theorem dX4_nearestAhead_0 : decode cX4_nearestAhead 0 = .ok (.iload_n 1, 1) := by decide +kernel
theorem dX4_nearestAhead_1 : decode cX4_nearestAhead 1 = .ok (.iconst 1, 1) := by decide +kernel
theorem dX4_nearestAhead_2 : decode cX4_nearestAhead 2 = .ok (.isub, 1) := by decide +kernel
theorem dX4_nearestAhead_3 : decode cX4_nearestAhead 3 = .ok (.istore_n 2, 1) := by decide +kernel
theorem dX4_nearestAhead_4 : decode cX4_nearestAhead 4 = .ok (.iload_n 2, 1) := by decide +kernel
theorem dX4_nearestAhead_5 : decode cX4_nearestAhead 5 = .ok (.ifCond .lt 28, 3) := by decide +kernel
theorem dX4_nearestAhead_8 : decode cX4_nearestAhead 8 = .ok (.aload_n 0, 1) := by decide +kernel
theorem dX4_nearestAhead_9 : decode cX4_nearestAhead 9 = .ok (.getfield 9, 3) := by decide +kernel
theorem dX4_nearestAhead_12 : decode cX4_nearestAhead 12 = .ok (.iload_n 2, 1) := by decide +kernel
theorem dX4_nearestAhead_13 : decode cX4_nearestAhead 13 = .ok (.iaload, 1) := by decide +kernel
theorem dX4_nearestAhead_14 : decode cX4_nearestAhead 14 = .ok (.sipush (-1001), 3) := by decide +kernel
theorem dX4_nearestAhead_17 : decode cX4_nearestAhead 17 = .ok (.if_icmp .eq 10, 3) := by decide +kernel
theorem dX4_nearestAhead_20 : decode cX4_nearestAhead 20 = .ok (.aload_n 0, 1) := by decide +kernel
theorem dX4_nearestAhead_21 : decode cX4_nearestAhead 21 = .ok (.getfield 9, 3) := by decide +kernel
theorem dX4_nearestAhead_24 : decode cX4_nearestAhead 24 = .ok (.iload_n 2, 1) := by decide +kernel
theorem dX4_nearestAhead_25 : decode cX4_nearestAhead 25 = .ok (.iaload, 1) := by decide +kernel
theorem dX4_nearestAhead_26 : decode cX4_nearestAhead 26 = .ok (.ireturn, 1) := by decide +kernel
theorem dX4_nearestAhead_27 : decode cX4_nearestAhead 27 = .ok (.iinc 2 (-1), 3) := by decide +kernel
theorem dX4_nearestAhead_30 : decode cX4_nearestAhead 30 = .ok (.goto (-26), 3) := by decide +kernel
theorem dX4_nearestAhead_33 : decode cX4_nearestAhead 33 = .ok (.sipush (-1001), 3) := by decide +kernel
theorem dX4_nearestAhead_36 : decode cX4_nearestAhead 36 = .ok (.ireturn, 1) := by decide +kernel
theorem dX4_nearestBehind_0 : decode cX4_nearestBehind 0 = .ok (.iload_n 1, 1) := by decide +kernel
theorem dX4_nearestBehind_1 : decode cX4_nearestBehind 1 = .ok (.iconst 1, 1) := by decide +kernel
theorem dX4_nearestBehind_2 : decode cX4_nearestBehind 2 = .ok (.iadd, 1) := by decide +kernel
theorem dX4_nearestBehind_3 : decode cX4_nearestBehind 3 = .ok (.istore_n 2, 1) := by decide +kernel
theorem dX4_nearestBehind_4 : decode cX4_nearestBehind 4 = .ok (.iload_n 2, 1) := by decide +kernel
theorem dX4_nearestBehind_5 : decode cX4_nearestBehind 5 = .ok (.bipush 36, 2) := by decide +kernel
theorem dX4_nearestBehind_7 : decode cX4_nearestBehind 7 = .ok (.if_icmp .ge 28, 3) := by decide +kernel
theorem dX4_nearestBehind_10 : decode cX4_nearestBehind 10 = .ok (.aload_n 0, 1) := by decide +kernel
theorem dX4_nearestBehind_11 : decode cX4_nearestBehind 11 = .ok (.getfield 9, 3) := by decide +kernel
theorem dX4_nearestBehind_14 : decode cX4_nearestBehind 14 = .ok (.iload_n 2, 1) := by decide +kernel
theorem dX4_nearestBehind_15 : decode cX4_nearestBehind 15 = .ok (.iaload, 1) := by decide +kernel
theorem dX4_nearestBehind_16 : decode cX4_nearestBehind 16 = .ok (.sipush (-1001), 3) := by decide +kernel
theorem dX4_nearestBehind_19 : decode cX4_nearestBehind 19 = .ok (.if_icmp .eq 10, 3) := by decide +kernel
theorem dX4_nearestBehind_22 : decode cX4_nearestBehind 22 = .ok (.aload_n 0, 1) := by decide +kernel
theorem dX4_nearestBehind_23 : decode cX4_nearestBehind 23 = .ok (.getfield 9, 3) := by decide +kernel
theorem dX4_nearestBehind_26 : decode cX4_nearestBehind 26 = .ok (.iload_n 2, 1) := by decide +kernel
theorem dX4_nearestBehind_27 : decode cX4_nearestBehind 27 = .ok (.iaload, 1) := by decide +kernel
theorem dX4_nearestBehind_28 : decode cX4_nearestBehind 28 = .ok (.ireturn, 1) := by decide +kernel
theorem dX4_nearestBehind_29 : decode cX4_nearestBehind 29 = .ok (.iinc 2 1, 3) := by decide +kernel
theorem dX4_nearestBehind_32 : decode cX4_nearestBehind 32 = .ok (.goto (-28), 3) := by decide +kernel
theorem dX4_nearestBehind_35 : decode cX4_nearestBehind 35 = .ok (.sipush (-1001), 3) := by decide +kernel
theorem dX4_nearestBehind_38 : decode cX4_nearestBehind 38 = .ok (.ireturn, 1) := by decide +kernel
theorem dX6_init_0 : decode cX6_init 0 = .ok (.aload_n 0, 1) := by decide +kernel
theorem dX6_init_1 : decode cX6_init 1 = .ok (.invokespecial 3, 3) := by decide +kernel
theorem dX6_init_4 : decode cX6_init 4 = .ok (.aload_n 0, 1) := by decide +kernel
theorem dX6_init_5 : decode cX6_init 5 = .ok (.bipush 36, 2) := by decide +kernel
theorem dX6_init_7 : decode cX6_init 7 = .ok (.newarray .int, 2) := by decide +kernel
theorem dX6_init_9 : decode cX6_init 9 = .ok (.putfield 9, 3) := by decide +kernel
theorem dX6_init_12 : decode cX6_init 12 = .ok (.return_, 1) := by decide +kernel
theorem dX6_renew_0 : decode cX6_renew 0 = .ok (.aload_n 0, 1) := by decide +kernel
theorem dX6_renew_1 : decode cX6_renew 1 = .ok (.iconst 1, 1) := by decide +kernel
theorem dX6_renew_2 : decode cX6_renew 2 = .ok (.putfield 15, 3) := by decide +kernel
theorem dX6_renew_5 : decode cX6_renew 5 = .ok (.aload_n 0, 1) := by decide +kernel
theorem dX6_renew_6 : decode cX6_renew 6 = .ok (.iload_n 1, 1) := by decide +kernel
theorem dX6_renew_7 : decode cX6_renew 7 = .ok (.putfield 19, 3) := by decide +kernel
theorem dX6_renew_10 : decode cX6_renew 10 = .ok (.aload_n 0, 1) := by decide +kernel
theorem dX6_renew_11 : decode cX6_renew 11 = .ok (.iload_n 2, 1) := by decide +kernel
theorem dX6_renew_12 : decode cX6_renew 12 = .ok (.putfield 23, 3) := by decide +kernel
theorem dX6_renew_15 : decode cX6_renew 15 = .ok (.aload_n 0, 1) := by decide +kernel
theorem dX6_renew_16 : decode cX6_renew 16 = .ok (.getfield 9, 3) := by decide +kernel
theorem dX6_renew_19 : decode cX6_renew 19 = .ok (.iconst 0, 1) := by decide +kernel
theorem dX6_renew_20 : decode cX6_renew 20 = .ok (.invokestatic 26, 3) := by decide +kernel
theorem dX6_renew_23 : decode cX6_renew 23 = .ok (.return_, 1) := by decide +kernel
theorem dX6_fits_0 : decode cX6_fits 0 = .ok (.iload_n 1, 1) := by decide +kernel
theorem dX6_fits_1 : decode cX6_fits 1 = .ok (.getstatic 32, 3) := by decide +kernel
theorem dX6_fits_4 : decode cX6_fits 4 = .ok (.aload_n 0, 1) := by decide +kernel
theorem dX6_fits_5 : decode cX6_fits 5 = .ok (.getfield 19, 3) := by decide +kernel
theorem dX6_fits_8 : decode cX6_fits 8 = .ok (.iaload, 1) := by decide +kernel
theorem dX6_fits_9 : decode cX6_fits 9 = .ok (.ineg, 1) := by decide +kernel
theorem dX6_fits_10 : decode cX6_fits 10 = .ok (.getstatic 32, 3) := by decide +kernel
theorem dX6_fits_13 : decode cX6_fits 13 = .ok (.aload_n 0, 1) := by decide +kernel
theorem dX6_fits_14 : decode cX6_fits 14 = .ok (.getfield 19, 3) := by decide +kernel
theorem dX6_fits_17 : decode cX6_fits 17 = .ok (.iaload, 1) := by decide +kernel
theorem dX6_fits_18 : decode cX6_fits 18 = .ok (.invokestatic 35, 3) := by decide +kernel
theorem dX6_fits_21 : decode cX6_fits 21 = .ok (.ireturn, 1) := by decide +kernel
theorem dX6_hasRun_0 : decode cX6_hasRun 0 = .ok (.iload_n 1, 1) := by decide +kernel
theorem dX6_hasRun_1 : decode cX6_hasRun 1 = .ok (.iconst 0, 1) := by decide +kernel
theorem dX6_hasRun_2 : decode cX6_hasRun 2 = .ok (.aload_n 0, 1) := by decide +kernel
theorem dX6_hasRun_3 : decode cX6_hasRun 3 = .ok (.getfield 23, 3) := by decide +kernel
theorem dX6_hasRun_6 : decode cX6_hasRun 6 = .ok (.invokestatic 35, 3) := by decide +kernel
theorem dX6_hasRun_9 : decode cX6_hasRun 9 = .ok (.ifCond .eq 21, 3) := by decide +kernel
theorem dX6_hasRun_12 : decode cX6_hasRun 12 = .ok (.iload_n 2, 1) := by decide +kernel
theorem dX6_hasRun_13 : decode cX6_hasRun 13 = .ok (.iconst 0, 1) := by decide +kernel
theorem dX6_hasRun_14 : decode cX6_hasRun 14 = .ok (.aload_n 0, 1) := by decide +kernel
theorem dX6_hasRun_15 : decode cX6_hasRun 15 = .ok (.getfield 23, 3) := by decide +kernel
theorem dX6_hasRun_18 : decode cX6_hasRun 18 = .ok (.iload_n 1, 1) := by decide +kernel
theorem dX6_hasRun_19 : decode cX6_hasRun 19 = .ok (.isub, 1) := by decide +kernel
theorem dX6_hasRun_20 : decode cX6_hasRun 20 = .ok (.invokestatic 35, 3) := by decide +kernel
theorem dX6_hasRun_23 : decode cX6_hasRun 23 = .ok (.ifCond .eq 7, 3) := by decide +kernel
theorem dX6_hasRun_26 : decode cX6_hasRun 26 = .ok (.iconst 1, 1) := by decide +kernel
theorem dX6_hasRun_27 : decode cX6_hasRun 27 = .ok (.goto 4, 3) := by decide +kernel
theorem dX6_hasRun_30 : decode cX6_hasRun 30 = .ok (.iconst 0, 1) := by decide +kernel
theorem dX6_hasRun_31 : decode cX6_hasRun 31 = .ok (.ireturn, 1) := by decide +kernel
theorem dX6_priceOf_0 : decode cX6_priceOf 0 = .ok (.aload_n 0, 1) := by decide +kernel
theorem dX6_priceOf_1 : decode cX6_priceOf 1 = .ok (.getfield 15, 3) := by decide +kernel
theorem dX6_priceOf_4 : decode cX6_priceOf 4 = .ok (.ifCond .eq 26, 3) := by decide +kernel
theorem dX6_priceOf_7 : decode cX6_priceOf 7 = .ok (.iload_n 1, 1) := by decide +kernel
theorem dX6_priceOf_8 : decode cX6_priceOf 8 = .ok (.iconst 0, 1) := by decide +kernel
theorem dX6_priceOf_9 : decode cX6_priceOf 9 = .ok (.aload_n 0, 1) := by decide +kernel
theorem dX6_priceOf_10 : decode cX6_priceOf 10 = .ok (.getfield 23, 3) := by decide +kernel
theorem dX6_priceOf_13 : decode cX6_priceOf 13 = .ok (.iconst 1, 1) := by decide +kernel
theorem dX6_priceOf_14 : decode cX6_priceOf 14 = .ok (.isub, 1) := by decide +kernel
theorem dX6_priceOf_15 : decode cX6_priceOf 15 = .ok (.invokestatic 35, 3) := by decide +kernel
theorem dX6_priceOf_18 : decode cX6_priceOf 18 = .ok (.ifCond .eq 12, 3) := by decide +kernel
theorem dX6_priceOf_21 : decode cX6_priceOf 21 = .ok (.aload_n 0, 1) := by decide +kernel
theorem dX6_priceOf_22 : decode cX6_priceOf 22 = .ok (.getfield 9, 3) := by decide +kernel
theorem dX6_priceOf_25 : decode cX6_priceOf 25 = .ok (.iload_n 1, 1) := by decide +kernel
theorem dX6_priceOf_26 : decode cX6_priceOf 26 = .ok (.iaload, 1) := by decide +kernel
theorem dX6_priceOf_27 : decode cX6_priceOf 27 = .ok (.goto 4, 3) := by decide +kernel
theorem dX6_priceOf_30 : decode cX6_priceOf 30 = .ok (.iconst 0, 1) := by decide +kernel
theorem dX6_priceOf_31 : decode cX6_priceOf 31 = .ok (.ireturn, 1) := by decide +kernel
theorem dJ6_bitCount_0f7a4_0 : decode cJ6_bitCount_0f7a4 0 = .ok (.iload_n 0, 1) := by decide +kernel
theorem dJ6_bitCount_0f7a4_1 : decode cJ6_bitCount_0f7a4 1 = .ok (.iload_n 0, 1) := by decide +kernel
theorem dJ6_bitCount_0f7a4_2 : decode cJ6_bitCount_0f7a4 2 = .ok (.iconst 1, 1) := by decide +kernel
theorem dJ6_bitCount_0f7a4_3 : decode cJ6_bitCount_0f7a4 3 = .ok (.iushr, 1) := by decide +kernel
theorem dJ6_bitCount_0f7a4_4 : decode cJ6_bitCount_0f7a4 4 = .ok (.ldc_w 265, 3) := by decide +kernel
theorem dJ6_bitCount_0f7a4_7 : decode cJ6_bitCount_0f7a4 7 = .ok (.iand, 1) := by decide +kernel
theorem dJ6_bitCount_0f7a4_8 : decode cJ6_bitCount_0f7a4 8 = .ok (.isub, 1) := by decide +kernel
theorem dJ6_bitCount_0f7a4_9 : decode cJ6_bitCount_0f7a4 9 = .ok (.istore_n 0, 1) := by decide +kernel
theorem dJ6_bitCount_0f7a4_10 : decode cJ6_bitCount_0f7a4 10 = .ok (.iload_n 0, 1) := by decide +kernel
theorem dJ6_bitCount_0f7a4_11 : decode cJ6_bitCount_0f7a4 11 = .ok (.ldc_w 266, 3) := by decide +kernel
theorem dJ6_bitCount_0f7a4_14 : decode cJ6_bitCount_0f7a4 14 = .ok (.iand, 1) := by decide +kernel
theorem dJ6_bitCount_0f7a4_15 : decode cJ6_bitCount_0f7a4 15 = .ok (.iload_n 0, 1) := by decide +kernel
theorem dJ6_bitCount_0f7a4_16 : decode cJ6_bitCount_0f7a4 16 = .ok (.iconst 2, 1) := by decide +kernel
theorem dJ6_bitCount_0f7a4_17 : decode cJ6_bitCount_0f7a4 17 = .ok (.iushr, 1) := by decide +kernel
theorem dJ6_bitCount_0f7a4_18 : decode cJ6_bitCount_0f7a4 18 = .ok (.ldc_w 266, 3) := by decide +kernel
theorem dJ6_bitCount_0f7a4_21 : decode cJ6_bitCount_0f7a4 21 = .ok (.iand, 1) := by decide +kernel
theorem dJ6_bitCount_0f7a4_22 : decode cJ6_bitCount_0f7a4 22 = .ok (.iadd, 1) := by decide +kernel
theorem dJ6_bitCount_0f7a4_23 : decode cJ6_bitCount_0f7a4 23 = .ok (.istore_n 0, 1) := by decide +kernel
theorem dJ6_bitCount_0f7a4_24 : decode cJ6_bitCount_0f7a4 24 = .ok (.iload_n 0, 1) := by decide +kernel
theorem dJ6_bitCount_0f7a4_25 : decode cJ6_bitCount_0f7a4 25 = .ok (.iload_n 0, 1) := by decide +kernel
theorem dJ6_bitCount_0f7a4_26 : decode cJ6_bitCount_0f7a4 26 = .ok (.iconst 4, 1) := by decide +kernel
theorem dJ6_bitCount_0f7a4_27 : decode cJ6_bitCount_0f7a4 27 = .ok (.iushr, 1) := by decide +kernel
theorem dJ6_bitCount_0f7a4_28 : decode cJ6_bitCount_0f7a4 28 = .ok (.iadd, 1) := by decide +kernel
theorem dJ6_bitCount_0f7a4_29 : decode cJ6_bitCount_0f7a4 29 = .ok (.ldc_w 267, 3) := by decide +kernel
theorem dJ6_bitCount_0f7a4_32 : decode cJ6_bitCount_0f7a4 32 = .ok (.iand, 1) := by decide +kernel
theorem dJ6_bitCount_0f7a4_33 : decode cJ6_bitCount_0f7a4 33 = .ok (.istore_n 0, 1) := by decide +kernel
theorem dJ6_bitCount_0f7a4_34 : decode cJ6_bitCount_0f7a4 34 = .ok (.iload_n 0, 1) := by decide +kernel
theorem dJ6_bitCount_0f7a4_35 : decode cJ6_bitCount_0f7a4 35 = .ok (.iload_n 0, 1) := by decide +kernel
theorem dJ6_bitCount_0f7a4_36 : decode cJ6_bitCount_0f7a4 36 = .ok (.bipush 8, 2) := by decide +kernel
theorem dJ6_bitCount_0f7a4_38 : decode cJ6_bitCount_0f7a4 38 = .ok (.iushr, 1) := by decide +kernel
theorem dJ6_bitCount_0f7a4_39 : decode cJ6_bitCount_0f7a4 39 = .ok (.iadd, 1) := by decide +kernel
theorem dJ6_bitCount_0f7a4_40 : decode cJ6_bitCount_0f7a4 40 = .ok (.istore_n 0, 1) := by decide +kernel
theorem dJ6_bitCount_0f7a4_41 : decode cJ6_bitCount_0f7a4 41 = .ok (.iload_n 0, 1) := by decide +kernel
theorem dJ6_bitCount_0f7a4_42 : decode cJ6_bitCount_0f7a4 42 = .ok (.iload_n 0, 1) := by decide +kernel
theorem dJ6_bitCount_0f7a4_43 : decode cJ6_bitCount_0f7a4 43 = .ok (.bipush 16, 2) := by decide +kernel
theorem dJ6_bitCount_0f7a4_45 : decode cJ6_bitCount_0f7a4 45 = .ok (.iushr, 1) := by decide +kernel
theorem dJ6_bitCount_0f7a4_46 : decode cJ6_bitCount_0f7a4 46 = .ok (.iadd, 1) := by decide +kernel
theorem dJ6_bitCount_0f7a4_47 : decode cJ6_bitCount_0f7a4 47 = .ok (.istore_n 0, 1) := by decide +kernel
theorem dJ6_bitCount_0f7a4_48 : decode cJ6_bitCount_0f7a4 48 = .ok (.iload_n 0, 1) := by decide +kernel
theorem dJ6_bitCount_0f7a4_49 : decode cJ6_bitCount_0f7a4 49 = .ok (.bipush 63, 2) := by decide +kernel
theorem dJ6_bitCount_0f7a4_51 : decode cJ6_bitCount_0f7a4 51 = .ok (.iand, 1) := by decide +kernel
theorem dJ6_bitCount_0f7a4_52 : decode cJ6_bitCount_0f7a4 52 = .ok (.ireturn, 1) := by decide +kernel
theorem dJ7_fill_d0a16_0 : decode cJ7_fill_d0a16 0 = .ok (.iconst 0, 1) := by decide +kernel
theorem dJ7_fill_d0a16_1 : decode cJ7_fill_d0a16 1 = .ok (.istore_n 3, 1) := by decide +kernel
theorem dJ7_fill_d0a16_2 : decode cJ7_fill_d0a16 2 = .ok (.aload_n 0, 1) := by decide +kernel
theorem dJ7_fill_d0a16_3 : decode cJ7_fill_d0a16 3 = .ok (.arraylength, 1) := by decide +kernel
theorem dJ7_fill_d0a16_4 : decode cJ7_fill_d0a16 4 = .ok (.istore 4, 2) := by decide +kernel
theorem dJ7_fill_d0a16_6 : decode cJ7_fill_d0a16 6 = .ok (.iload_n 3, 1) := by decide +kernel
theorem dJ7_fill_d0a16_7 : decode cJ7_fill_d0a16 7 = .ok (.iload 4, 2) := by decide +kernel
theorem dJ7_fill_d0a16_9 : decode cJ7_fill_d0a16 9 = .ok (.if_icmp .ge 13, 3) := by decide +kernel
theorem dJ7_fill_d0a16_12 : decode cJ7_fill_d0a16 12 = .ok (.aload_n 0, 1) := by decide +kernel
theorem dJ7_fill_d0a16_13 : decode cJ7_fill_d0a16 13 = .ok (.iload_n 3, 1) := by decide +kernel
theorem dJ7_fill_d0a16_14 : decode cJ7_fill_d0a16 14 = .ok (.lload_n 1, 1) := by decide +kernel
theorem dJ7_fill_d0a16_15 : decode cJ7_fill_d0a16 15 = .ok (.lastore, 1) := by decide +kernel
theorem dJ7_fill_d0a16_16 : decode cJ7_fill_d0a16 16 = .ok (.iinc 3 1, 3) := by decide +kernel
theorem dJ7_fill_d0a16_19 : decode cJ7_fill_d0a16 19 = .ok (.goto (-13), 3) := by decide +kernel
theorem dJ7_fill_d0a16_22 : decode cJ7_fill_d0a16 22 = .ok (.return_, 1) := by decide +kernel
theorem dJ7_fill_53178_0 : decode cJ7_fill_53178 0 = .ok (.iconst 0, 1) := by decide +kernel
theorem dJ7_fill_53178_1 : decode cJ7_fill_53178 1 = .ok (.istore_n 2, 1) := by decide +kernel
theorem dJ7_fill_53178_2 : decode cJ7_fill_53178 2 = .ok (.aload_n 0, 1) := by decide +kernel
theorem dJ7_fill_53178_3 : decode cJ7_fill_53178 3 = .ok (.arraylength, 1) := by decide +kernel
theorem dJ7_fill_53178_4 : decode cJ7_fill_53178 4 = .ok (.istore_n 3, 1) := by decide +kernel
theorem dJ7_fill_53178_5 : decode cJ7_fill_53178 5 = .ok (.iload_n 2, 1) := by decide +kernel
theorem dJ7_fill_53178_6 : decode cJ7_fill_53178 6 = .ok (.iload_n 3, 1) := by decide +kernel
theorem dJ7_fill_53178_7 : decode cJ7_fill_53178 7 = .ok (.if_icmp .ge 13, 3) := by decide +kernel
theorem dJ7_fill_53178_10 : decode cJ7_fill_53178 10 = .ok (.aload_n 0, 1) := by decide +kernel
theorem dJ7_fill_53178_11 : decode cJ7_fill_53178 11 = .ok (.iload_n 2, 1) := by decide +kernel
theorem dJ7_fill_53178_12 : decode cJ7_fill_53178 12 = .ok (.iload_n 1, 1) := by decide +kernel
theorem dJ7_fill_53178_13 : decode cJ7_fill_53178 13 = .ok (.iastore, 1) := by decide +kernel
theorem dJ7_fill_53178_14 : decode cJ7_fill_53178 14 = .ok (.iinc 2 1, 3) := by decide +kernel
theorem dJ7_fill_53178_17 : decode cJ7_fill_53178 17 = .ok (.goto (-12), 3) := by decide +kernel
theorem dJ7_fill_53178_20 : decode cJ7_fill_53178 20 = .ok (.return_, 1) := by decide +kernel
theorem dJ9_floorDiv_7cf53_0 : decode cJ9_floorDiv_7cf53 0 = .ok (.iload_n 0, 1) := by decide +kernel
theorem dJ9_floorDiv_7cf53_1 : decode cJ9_floorDiv_7cf53 1 = .ok (.iload_n 1, 1) := by decide +kernel
theorem dJ9_floorDiv_7cf53_2 : decode cJ9_floorDiv_7cf53 2 = .ok (.idiv, 1) := by decide +kernel
theorem dJ9_floorDiv_7cf53_3 : decode cJ9_floorDiv_7cf53 3 = .ok (.istore_n 2, 1) := by decide +kernel
theorem dJ9_floorDiv_7cf53_4 : decode cJ9_floorDiv_7cf53 4 = .ok (.iload_n 0, 1) := by decide +kernel
theorem dJ9_floorDiv_7cf53_5 : decode cJ9_floorDiv_7cf53 5 = .ok (.iload_n 1, 1) := by decide +kernel
theorem dJ9_floorDiv_7cf53_6 : decode cJ9_floorDiv_7cf53 6 = .ok (.ixor, 1) := by decide +kernel
theorem dJ9_floorDiv_7cf53_7 : decode cJ9_floorDiv_7cf53 7 = .ok (.ifCond .ge 14, 3) := by decide +kernel
theorem dJ9_floorDiv_7cf53_10 : decode cJ9_floorDiv_7cf53 10 = .ok (.iload_n 2, 1) := by decide +kernel
theorem dJ9_floorDiv_7cf53_11 : decode cJ9_floorDiv_7cf53 11 = .ok (.iload_n 1, 1) := by decide +kernel
theorem dJ9_floorDiv_7cf53_12 : decode cJ9_floorDiv_7cf53 12 = .ok (.imul, 1) := by decide +kernel
theorem dJ9_floorDiv_7cf53_13 : decode cJ9_floorDiv_7cf53 13 = .ok (.iload_n 0, 1) := by decide +kernel
theorem dJ9_floorDiv_7cf53_14 : decode cJ9_floorDiv_7cf53 14 = .ok (.if_icmp .eq 7, 3) := by decide +kernel
theorem dJ9_floorDiv_7cf53_17 : decode cJ9_floorDiv_7cf53 17 = .ok (.iload_n 2, 1) := by decide +kernel
theorem dJ9_floorDiv_7cf53_18 : decode cJ9_floorDiv_7cf53 18 = .ok (.iconst 1, 1) := by decide +kernel
theorem dJ9_floorDiv_7cf53_19 : decode cJ9_floorDiv_7cf53 19 = .ok (.isub, 1) := by decide +kernel
theorem dJ9_floorDiv_7cf53_20 : decode cJ9_floorDiv_7cf53 20 = .ok (.ireturn, 1) := by decide +kernel
theorem dJ9_floorDiv_7cf53_21 : decode cJ9_floorDiv_7cf53 21 = .ok (.iload_n 2, 1) := by decide +kernel
theorem dJ9_floorDiv_7cf53_22 : decode cJ9_floorDiv_7cf53 22 = .ok (.ireturn, 1) := by decide +kernel
theorem dJ9_abs_0f7a4_0 : decode cJ9_abs_0f7a4 0 = .ok (.iload_n 0, 1) := by decide +kernel
theorem dJ9_abs_0f7a4_1 : decode cJ9_abs_0f7a4 1 = .ok (.ifCond .ge 8, 3) := by decide +kernel
theorem dJ9_abs_0f7a4_4 : decode cJ9_abs_0f7a4 4 = .ok (.iload_n 0, 1) := by decide +kernel
theorem dJ9_abs_0f7a4_5 : decode cJ9_abs_0f7a4 5 = .ok (.ineg, 1) := by decide +kernel
theorem dJ9_abs_0f7a4_6 : decode cJ9_abs_0f7a4 6 = .ok (.goto 4, 3) := by decide +kernel
theorem dJ9_abs_0f7a4_9 : decode cJ9_abs_0f7a4 9 = .ok (.iload_n 0, 1) := by decide +kernel
theorem dJ9_abs_0f7a4_10 : decode cJ9_abs_0f7a4 10 = .ok (.ireturn, 1) := by decide +kernel
theorem dJ9_max_7cf53_0 : decode cJ9_max_7cf53 0 = .ok (.iload_n 0, 1) := by decide +kernel
theorem dJ9_max_7cf53_1 : decode cJ9_max_7cf53 1 = .ok (.iload_n 1, 1) := by decide +kernel
theorem dJ9_max_7cf53_2 : decode cJ9_max_7cf53 2 = .ok (.if_icmp .lt 7, 3) := by decide +kernel
theorem dJ9_max_7cf53_5 : decode cJ9_max_7cf53 5 = .ok (.iload_n 0, 1) := by decide +kernel
theorem dJ9_max_7cf53_6 : decode cJ9_max_7cf53 6 = .ok (.goto 4, 3) := by decide +kernel
theorem dJ9_max_7cf53_9 : decode cJ9_max_7cf53 9 = .ok (.iload_n 1, 1) := by decide +kernel
theorem dJ9_max_7cf53_10 : decode cJ9_max_7cf53 10 = .ok (.ireturn, 1) := by decide +kernel
theorem dJ9_min_7cf53_0 : decode cJ9_min_7cf53 0 = .ok (.iload_n 0, 1) := by decide +kernel
theorem dJ9_min_7cf53_1 : decode cJ9_min_7cf53 1 = .ok (.iload_n 1, 1) := by decide +kernel
theorem dJ9_min_7cf53_2 : decode cJ9_min_7cf53 2 = .ok (.if_icmp .gt 7, 3) := by decide +kernel
theorem dJ9_min_7cf53_5 : decode cJ9_min_7cf53 5 = .ok (.iload_n 0, 1) := by decide +kernel
theorem dJ9_min_7cf53_6 : decode cJ9_min_7cf53 6 = .ok (.goto 4, 3) := by decide +kernel
theorem dJ9_min_7cf53_9 : decode cJ9_min_7cf53 9 = .ok (.iload_n 1, 1) := by decide +kernel
theorem dJ9_min_7cf53_10 : decode cJ9_min_7cf53 10 = .ok (.ireturn, 1) := by decide +kernel
theorem dJ9_min_f86c9_0 : decode cJ9_min_f86c9 0 = .ok (.lload_n 0, 1) := by decide +kernel
theorem dJ9_min_f86c9_1 : decode cJ9_min_f86c9 1 = .ok (.lload_n 2, 1) := by decide +kernel
theorem dJ9_min_f86c9_2 : decode cJ9_min_f86c9 2 = .ok (.lcmp, 1) := by decide +kernel
theorem dJ9_min_f86c9_3 : decode cJ9_min_f86c9 3 = .ok (.ifCond .gt 7, 3) := by decide +kernel
theorem dJ9_min_f86c9_6 : decode cJ9_min_f86c9 6 = .ok (.lload_n 0, 1) := by decide +kernel
theorem dJ9_min_f86c9_7 : decode cJ9_min_f86c9 7 = .ok (.goto 4, 3) := by decide +kernel
theorem dJ9_min_f86c9_10 : decode cJ9_min_f86c9 10 = .ok (.lload_n 2, 1) := by decide +kernel
theorem dJ9_min_f86c9_11 : decode cJ9_min_f86c9 11 = .ok (.lreturn, 1) := by decide +kernel
end
section
theorem dX5_init_0 : decode cX5_init 0 = .ok (.aload_n 0, 1) := by decide +kernel
theorem dX5_init_1 : decode cX5_init 1 = .ok (.invokespecial 3, 3) := by decide +kernel
theorem dX5_init_4 : decode cX5_init 4 = .ok (.aload_n 0, 1) := by decide +kernel
theorem dX5_init_5 : decode cX5_init 5 = .ok (.sipush 2257, 3) := by decide +kernel
theorem dX5_init_8 : decode cX5_init 8 = .ok (.newarray .long, 2) := by decide +kernel
theorem dX5_init_10 : decode cX5_init 10 = .ok (.putfield 9, 3) := by decide +kernel
theorem dX5_init_13 : decode cX5_init 13 = .ok (.aload_n 0, 1) := by decide +kernel
theorem dX5_init_14 : decode cX5_init 14 = .ok (.bipush 81, 2) := by decide +kernel
theorem dX5_init_16 : decode cX5_init 16 = .ok (.newarray .long, 2) := by decide +kernel
theorem dX5_init_18 : decode cX5_init 18 = .ok (.putfield 15, 3) := by decide +kernel
theorem dX5_init_21 : decode cX5_init 21 = .ok (.aload_n 0, 1) := by decide +kernel
theorem dX5_init_22 : decode cX5_init 22 = .ok (.bipush 61, 2) := by decide +kernel
theorem dX5_init_24 : decode cX5_init 24 = .ok (.newarray .long, 2) := by decide +kernel
theorem dX5_init_26 : decode cX5_init 26 = .ok (.putfield 18, 3) := by decide +kernel
theorem dX5_init_29 : decode cX5_init 29 = .ok (.aload_n 0, 1) := by decide +kernel
theorem dX5_init_30 : decode cX5_init 30 = .ok (.bipush 61, 2) := by decide +kernel
theorem dX5_init_32 : decode cX5_init 32 = .ok (.newarray .long, 2) := by decide +kernel
theorem dX5_init_34 : decode cX5_init 34 = .ok (.putfield 21, 3) := by decide +kernel
theorem dX5_init_37 : decode cX5_init 37 = .ok (.aload_n 0, 1) := by decide +kernel
theorem dX5_init_38 : decode cX5_init 38 = .ok (.aload_n 1, 1) := by decide +kernel
theorem dX5_init_39 : decode cX5_init 39 = .ok (.putfield 24, 3) := by decide +kernel
theorem dX5_init_42 : decode cX5_init 42 = .ok (.aload_n 0, 1) := by decide +kernel
theorem dX5_init_43 : decode cX5_init 43 = .ok (.aload_n 2, 1) := by decide +kernel
theorem dX5_init_44 : decode cX5_init 44 = .ok (.putfield 28, 3) := by decide +kernel
theorem dX5_init_47 : decode cX5_init 47 = .ok (.return_, 1) := by decide +kernel
theorem dX5_worthOf_0 : decode cX5_worthOf 0 = .ok (.aload_n 0, 1) := by decide +kernel
theorem dX5_worthOf_1 : decode cX5_worthOf 1 = .ok (.getfield 9, 3) := by decide +kernel
theorem dX5_worthOf_4 : decode cX5_worthOf 4 = .ok (.iload_n 1, 1) := by decide +kernel
theorem dX5_worthOf_5 : decode cX5_worthOf 5 = .ok (.bipush 61, 2) := by decide +kernel
theorem dX5_worthOf_7 : decode cX5_worthOf 7 = .ok (.imul, 1) := by decide +kernel
theorem dX5_worthOf_8 : decode cX5_worthOf 8 = .ok (.iload_n 2, 1) := by decide +kernel
theorem dX5_worthOf_9 : decode cX5_worthOf 9 = .ok (.iadd, 1) := by decide +kernel
theorem dX5_worthOf_10 : decode cX5_worthOf 10 = .ok (.laload, 1) := by decide +kernel
theorem dX5_worthOf_11 : decode cX5_worthOf 11 = .ok (.lreturn, 1) := by decide +kernel
theorem dX5_solve_0 : decode cX5_solve 0 = .ok (.iconst 0, 1) := by decide +kernel
theorem dX5_solve_1 : decode cX5_solve 1 = .ok (.istore 4, 2) := by decide +kernel
theorem dX5_solve_3 : decode cX5_solve 3 = .ok (.iload 4, 2) := by decide +kernel
theorem dX5_solve_5 : decode cX5_solve 5 = .ok (.bipush 61, 2) := by decide +kernel
theorem dX5_solve_7 : decode cX5_solve 7 = .ok (.if_icmp .ge 43, 3) := by decide +kernel
theorem dX5_solve_10 : decode cX5_solve 10 = .ok (.aload_n 0, 1) := by decide +kernel
theorem dX5_solve_11 : decode cX5_solve 11 = .ok (.getfield 9, 3) := by decide +kernel
theorem dX5_solve_14 : decode cX5_solve 14 = .ok (.aload_n 0, 1) := by decide +kernel
theorem dX5_solve_15 : decode cX5_solve 15 = .ok (.getfield 24, 3) := by decide +kernel
theorem dX5_solve_18 : decode cX5_solve 18 = .ok (.getfield 32, 3) := by decide +kernel
theorem dX5_solve_21 : decode cX5_solve 21 = .ok (.bipush 61, 2) := by decide +kernel
theorem dX5_solve_23 : decode cX5_solve 23 = .ok (.imul, 1) := by decide +kernel
theorem dX5_solve_24 : decode cX5_solve 24 = .ok (.iload 4, 2) := by decide +kernel
theorem dX5_solve_26 : decode cX5_solve 26 = .ok (.iadd, 1) := by decide +kernel
theorem dX5_solve_27 : decode cX5_solve 27 = .ok (.iload 4, 2) := by decide +kernel
theorem dX5_solve_29 : decode cX5_solve 29 = .ok (.aload_n 1, 1) := by decide +kernel
theorem dX5_solve_30 : decode cX5_solve 30 = .ok (.getfield 38, 3) := by decide +kernel
theorem dX5_solve_33 : decode cX5_solve 33 = .ok (.if_icmp .ge 9, 3) := by decide +kernel
theorem dX5_solve_36 : decode cX5_solve 36 = .ok (.ldc2_w 43, 3) := by decide +kernel
theorem dX5_solve_39 : decode cX5_solve 39 = .ok (.goto 4, 3) := by decide +kernel
theorem dX5_solve_42 : decode cX5_solve 42 = .ok (.lconst 0, 1) := by decide +kernel
theorem dX5_solve_43 : decode cX5_solve 43 = .ok (.lastore, 1) := by decide +kernel
theorem dX5_solve_44 : decode cX5_solve 44 = .ok (.iinc 4 1, 3) := by decide +kernel
theorem dX5_solve_47 : decode cX5_solve 47 = .ok (.goto (-44), 3) := by decide +kernel
theorem dX5_solve_50 : decode cX5_solve 50 = .ok (.aload_n 0, 1) := by decide +kernel
theorem dX5_solve_51 : decode cX5_solve 51 = .ok (.getfield 24, 3) := by decide +kernel
theorem dX5_solve_54 : decode cX5_solve 54 = .ok (.getfield 32, 3) := by decide +kernel
theorem dX5_solve_57 : decode cX5_solve 57 = .ok (.iconst 1, 1) := by decide +kernel
theorem dX5_solve_58 : decode cX5_solve 58 = .ok (.isub, 1) := by decide +kernel
theorem dX5_solve_59 : decode cX5_solve 59 = .ok (.istore 4, 2) := by decide +kernel
theorem dX5_solve_61 : decode cX5_solve 61 = .ok (.iload 4, 2) := by decide +kernel
theorem dX5_solve_63 : decode cX5_solve 63 = .ok (.iload_n 3, 1) := by decide +kernel
theorem dX5_solve_64 : decode cX5_solve 64 = .ok (.if_icmp .lt 56, 3) := by decide +kernel
theorem dX5_solve_67 : decode cX5_solve 67 = .ok (.aload_n 0, 1) := by decide +kernel
theorem dX5_solve_68 : decode cX5_solve 68 = .ok (.aload_n 1, 1) := by decide +kernel
theorem dX5_solve_69 : decode cX5_solve 69 = .ok (.iload_n 2, 1) := by decide +kernel
theorem dX5_solve_70 : decode cX5_solve 70 = .ok (.iload 4, 2) := by decide +kernel
theorem dX5_solve_72 : decode cX5_solve 72 = .ok (.invokevirtual 45, 3) := by decide +kernel
theorem dX5_solve_75 : decode cX5_solve 75 = .ok (.iconst 0, 1) := by decide +kernel
theorem dX5_solve_76 : decode cX5_solve 76 = .ok (.istore 5, 2) := by decide +kernel
theorem dX5_solve_78 : decode cX5_solve 78 = .ok (.iload 5, 2) := by decide +kernel
theorem dX5_solve_80 : decode cX5_solve 80 = .ok (.aload_n 1, 1) := by decide +kernel
theorem dX5_solve_81 : decode cX5_solve 81 = .ok (.getfield 49, 3) := by decide +kernel
theorem dX5_solve_84 : decode cX5_solve 84 = .ok (.if_icmp .gt 30, 3) := by decide +kernel
theorem dX5_solve_87 : decode cX5_solve 87 = .ok (.aload_n 0, 1) := by decide +kernel
theorem dX5_solve_88 : decode cX5_solve 88 = .ok (.getfield 9, 3) := by decide +kernel
theorem dX5_solve_91 : decode cX5_solve 91 = .ok (.iload 4, 2) := by decide +kernel
theorem dX5_solve_93 : decode cX5_solve 93 = .ok (.bipush 61, 2) := by decide +kernel
theorem dX5_solve_95 : decode cX5_solve 95 = .ok (.imul, 1) := by decide +kernel
theorem dX5_solve_96 : decode cX5_solve 96 = .ok (.iload 5, 2) := by decide +kernel
theorem dX5_solve_98 : decode cX5_solve 98 = .ok (.iadd, 1) := by decide +kernel
theorem dX5_solve_99 : decode cX5_solve 99 = .ok (.aload_n 0, 1) := by decide +kernel
theorem dX5_solve_100 : decode cX5_solve 100 = .ok (.iload 4, 2) := by decide +kernel
theorem dX5_solve_102 : decode cX5_solve 102 = .ok (.iload 5, 2) := by decide +kernel
theorem dX5_solve_104 : decode cX5_solve 104 = .ok (.invokevirtual 52, 3) := by decide +kernel
theorem dX5_solve_107 : decode cX5_solve 107 = .ok (.lastore, 1) := by decide +kernel
theorem dX5_solve_108 : decode cX5_solve 108 = .ok (.iinc 5 1, 3) := by decide +kernel
theorem dX5_solve_111 : decode cX5_solve 111 = .ok (.goto (-33), 3) := by decide +kernel
theorem dX5_solve_114 : decode cX5_solve 114 = .ok (.iinc 4 (-1), 3) := by decide +kernel
theorem dX5_solve_117 : decode cX5_solve 117 = .ok (.goto (-56), 3) := by decide +kernel
theorem dX5_solve_120 : decode cX5_solve 120 = .ok (.return_, 1) := by decide +kernel
theorem dX5_writeFirstBest_0 : decode cX5_writeFirstBest 0 = .ok (.aload_n 1, 1) := by decide +kernel
theorem dX5_writeFirstBest_1 : decode cX5_writeFirstBest 1 = .ok (.getfield 56, 3) := by decide +kernel
theorem dX5_writeFirstBest_4 : decode cX5_writeFirstBest 4 = .ok (.istore_n 3, 1) := by decide +kernel
theorem dX5_writeFirstBest_5 : decode cX5_writeFirstBest 5 = .ok (.iconst 0, 1) := by decide +kernel
theorem dX5_writeFirstBest_6 : decode cX5_writeFirstBest 6 = .ok (.istore 4, 2) := by decide +kernel
theorem dX5_writeFirstBest_8 : decode cX5_writeFirstBest 8 = .ok (.iload 4, 2) := by decide +kernel
theorem dX5_writeFirstBest_10 : decode cX5_writeFirstBest 10 = .ok (.aload_n 0, 1) := by decide +kernel
theorem dX5_writeFirstBest_11 : decode cX5_writeFirstBest 11 = .ok (.getfield 24, 3) := by decide +kernel
theorem dX5_writeFirstBest_14 : decode cX5_writeFirstBest 14 = .ok (.getfield 32, 3) := by decide +kernel
theorem dX5_writeFirstBest_17 : decode cX5_writeFirstBest 17 = .ok (.if_icmp .ge 40, 3) := by decide +kernel
theorem dX5_writeFirstBest_20 : decode cX5_writeFirstBest 20 = .ok (.aload_n 0, 1) := by decide +kernel
theorem dX5_writeFirstBest_21 : decode cX5_writeFirstBest 21 = .ok (.aload_n 1, 1) := by decide +kernel
theorem dX5_writeFirstBest_22 : decode cX5_writeFirstBest 22 = .ok (.iload_n 2, 1) := by decide +kernel
theorem dX5_writeFirstBest_23 : decode cX5_writeFirstBest 23 = .ok (.iload 4, 2) := by decide +kernel
theorem dX5_writeFirstBest_25 : decode cX5_writeFirstBest 25 = .ok (.invokevirtual 45, 3) := by decide +kernel
theorem dX5_writeFirstBest_28 : decode cX5_writeFirstBest 28 = .ok (.aload_n 0, 1) := by decide +kernel
theorem dX5_writeFirstBest_29 : decode cX5_writeFirstBest 29 = .ok (.iload 4, 2) := by decide +kernel
theorem dX5_writeFirstBest_31 : decode cX5_writeFirstBest 31 = .ok (.iload_n 3, 1) := by decide +kernel
theorem dX5_writeFirstBest_32 : decode cX5_writeFirstBest 32 = .ok (.invokevirtual 59, 3) := by decide +kernel
theorem dX5_writeFirstBest_35 : decode cX5_writeFirstBest 35 = .ok (.istore 5, 2) := by decide +kernel
theorem dX5_writeFirstBest_37 : decode cX5_writeFirstBest 37 = .ok (.aload_n 1, 1) := by decide +kernel
theorem dX5_writeFirstBest_38 : decode cX5_writeFirstBest 38 = .ok (.getfield 63, 3) := by decide +kernel
theorem dX5_writeFirstBest_41 : decode cX5_writeFirstBest 41 = .ok (.iload 4, 2) := by decide +kernel
theorem dX5_writeFirstBest_43 : decode cX5_writeFirstBest 43 = .ok (.iload 5, 2) := by decide +kernel
theorem dX5_writeFirstBest_45 : decode cX5_writeFirstBest 45 = .ok (.iastore, 1) := by decide +kernel
theorem dX5_writeFirstBest_46 : decode cX5_writeFirstBest 46 = .ok (.iload_n 3, 1) := by decide +kernel
theorem dX5_writeFirstBest_47 : decode cX5_writeFirstBest 47 = .ok (.iload 5, 2) := by decide +kernel
theorem dX5_writeFirstBest_49 : decode cX5_writeFirstBest 49 = .ok (.iadd, 1) := by decide +kernel
theorem dX5_writeFirstBest_50 : decode cX5_writeFirstBest 50 = .ok (.istore_n 3, 1) := by decide +kernel
theorem dX5_writeFirstBest_51 : decode cX5_writeFirstBest 51 = .ok (.iinc 4 1, 3) := by decide +kernel
theorem dX5_writeFirstBest_54 : decode cX5_writeFirstBest 54 = .ok (.goto (-46), 3) := by decide +kernel
theorem dX5_writeFirstBest_57 : decode cX5_writeFirstBest 57 = .ok (.return_, 1) := by decide +kernel
theorem dX5_waysOfBest_0 : decode cX5_waysOfBest 0 = .ok (.aload_n 0, 1) := by decide +kernel
theorem dX5_waysOfBest_1 : decode cX5_waysOfBest 1 = .ok (.getfield 18, 3) := by decide +kernel
theorem dX5_waysOfBest_4 : decode cX5_waysOfBest 4 = .ok (.lconst 0, 1) := by decide +kernel
theorem dX5_waysOfBest_5 : decode cX5_waysOfBest 5 = .ok (.invokestatic 67, 3) := by decide +kernel
theorem dX5_waysOfBest_8 : decode cX5_waysOfBest 8 = .ok (.aload_n 0, 1) := by decide +kernel
theorem dX5_waysOfBest_9 : decode cX5_waysOfBest 9 = .ok (.getfield 18, 3) := by decide +kernel
theorem dX5_waysOfBest_12 : decode cX5_waysOfBest 12 = .ok (.aload_n 1, 1) := by decide +kernel
theorem dX5_waysOfBest_13 : decode cX5_waysOfBest 13 = .ok (.getfield 56, 3) := by decide +kernel
theorem dX5_waysOfBest_16 : decode cX5_waysOfBest 16 = .ok (.lconst 1, 1) := by decide +kernel
theorem dX5_waysOfBest_17 : decode cX5_waysOfBest 17 = .ok (.lastore, 1) := by decide +kernel
theorem dX5_waysOfBest_18 : decode cX5_waysOfBest 18 = .ok (.iconst 0, 1) := by decide +kernel
theorem dX5_waysOfBest_19 : decode cX5_waysOfBest 19 = .ok (.istore_n 3, 1) := by decide +kernel
theorem dX5_waysOfBest_20 : decode cX5_waysOfBest 20 = .ok (.iload_n 3, 1) := by decide +kernel
theorem dX5_waysOfBest_21 : decode cX5_waysOfBest 21 = .ok (.aload_n 0, 1) := by decide +kernel
theorem dX5_waysOfBest_22 : decode cX5_waysOfBest 22 = .ok (.getfield 24, 3) := by decide +kernel
theorem dX5_waysOfBest_25 : decode cX5_waysOfBest 25 = .ok (.getfield 32, 3) := by decide +kernel
theorem dX5_waysOfBest_28 : decode cX5_waysOfBest 28 = .ok (.if_icmp .ge 64, 3) := by decide +kernel
theorem dX5_waysOfBest_31 : decode cX5_waysOfBest 31 = .ok (.aload_n 0, 1) := by decide +kernel
theorem dX5_waysOfBest_32 : decode cX5_waysOfBest 32 = .ok (.aload_n 1, 1) := by decide +kernel
theorem dX5_waysOfBest_33 : decode cX5_waysOfBest 33 = .ok (.iload_n 2, 1) := by decide +kernel
theorem dX5_waysOfBest_34 : decode cX5_waysOfBest 34 = .ok (.iload_n 3, 1) := by decide +kernel
theorem dX5_waysOfBest_35 : decode cX5_waysOfBest 35 = .ok (.invokevirtual 45, 3) := by decide +kernel
theorem dX5_waysOfBest_38 : decode cX5_waysOfBest 38 = .ok (.aload_n 0, 1) := by decide +kernel
theorem dX5_waysOfBest_39 : decode cX5_waysOfBest 39 = .ok (.getfield 21, 3) := by decide +kernel
theorem dX5_waysOfBest_42 : decode cX5_waysOfBest 42 = .ok (.lconst 0, 1) := by decide +kernel
theorem dX5_waysOfBest_43 : decode cX5_waysOfBest 43 = .ok (.invokestatic 67, 3) := by decide +kernel
theorem dX5_waysOfBest_46 : decode cX5_waysOfBest 46 = .ok (.iconst 0, 1) := by decide +kernel
theorem dX5_waysOfBest_47 : decode cX5_waysOfBest 47 = .ok (.istore 4, 2) := by decide +kernel
theorem dX5_waysOfBest_49 : decode cX5_waysOfBest 49 = .ok (.iload 4, 2) := by decide +kernel
theorem dX5_waysOfBest_51 : decode cX5_waysOfBest 51 = .ok (.aload_n 1, 1) := by decide +kernel
theorem dX5_waysOfBest_52 : decode cX5_waysOfBest 52 = .ok (.getfield 49, 3) := by decide +kernel
theorem dX5_waysOfBest_55 : decode cX5_waysOfBest 55 = .ok (.if_icmp .gt 16, 3) := by decide +kernel
theorem dX5_waysOfBest_58 : decode cX5_waysOfBest 58 = .ok (.aload_n 0, 1) := by decide +kernel
theorem dX5_waysOfBest_59 : decode cX5_waysOfBest 59 = .ok (.iload_n 3, 1) := by decide +kernel
theorem dX5_waysOfBest_60 : decode cX5_waysOfBest 60 = .ok (.iload 4, 2) := by decide +kernel
theorem dX5_waysOfBest_62 : decode cX5_waysOfBest 62 = .ok (.invokevirtual 73, 3) := by decide +kernel
theorem dX5_waysOfBest_65 : decode cX5_waysOfBest 65 = .ok (.iinc 4 1, 3) := by decide +kernel
theorem dX5_waysOfBest_68 : decode cX5_waysOfBest 68 = .ok (.goto (-19), 3) := by decide +kernel
theorem dX5_waysOfBest_71 : decode cX5_waysOfBest 71 = .ok (.aload_n 0, 1) := by decide +kernel
theorem dX5_waysOfBest_72 : decode cX5_waysOfBest 72 = .ok (.getfield 21, 3) := by decide +kernel
theorem dX5_waysOfBest_75 : decode cX5_waysOfBest 75 = .ok (.iconst 0, 1) := by decide +kernel
theorem dX5_waysOfBest_76 : decode cX5_waysOfBest 76 = .ok (.aload_n 0, 1) := by decide +kernel
theorem dX5_waysOfBest_77 : decode cX5_waysOfBest 77 = .ok (.getfield 18, 3) := by decide +kernel
theorem dX5_waysOfBest_80 : decode cX5_waysOfBest 80 = .ok (.iconst 0, 1) := by decide +kernel
theorem dX5_waysOfBest_81 : decode cX5_waysOfBest 81 = .ok (.bipush 61, 2) := by decide +kernel
theorem dX5_waysOfBest_83 : decode cX5_waysOfBest 83 = .ok (.invokestatic 77, 3) := by decide +kernel
theorem dX5_waysOfBest_86 : decode cX5_waysOfBest 86 = .ok (.iinc 3 1, 3) := by decide +kernel
theorem dX5_waysOfBest_89 : decode cX5_waysOfBest 89 = .ok (.goto (-69), 3) := by decide +kernel
theorem dX5_waysOfBest_92 : decode cX5_waysOfBest 92 = .ok (.lconst 0, 1) := by decide +kernel
theorem dX5_waysOfBest_93 : decode cX5_waysOfBest 93 = .ok (.lstore_n 3, 1) := by decide +kernel
theorem dX5_waysOfBest_94 : decode cX5_waysOfBest 94 = .ok (.iconst 0, 1) := by decide +kernel
theorem dX5_waysOfBest_95 : decode cX5_waysOfBest 95 = .ok (.istore 5, 2) := by decide +kernel
theorem dX5_waysOfBest_97 : decode cX5_waysOfBest 97 = .ok (.iload 5, 2) := by decide +kernel
theorem dX5_waysOfBest_99 : decode cX5_waysOfBest 99 = .ok (.bipush 61, 2) := by decide +kernel
theorem dX5_waysOfBest_101 : decode cX5_waysOfBest 101 = .ok (.if_icmp .ge 19, 3) := by decide +kernel
theorem dX5_waysOfBest_104 : decode cX5_waysOfBest 104 = .ok (.lload_n 3, 1) := by decide +kernel
theorem dX5_waysOfBest_105 : decode cX5_waysOfBest 105 = .ok (.aload_n 0, 1) := by decide +kernel
theorem dX5_waysOfBest_106 : decode cX5_waysOfBest 106 = .ok (.getfield 18, 3) := by decide +kernel
theorem dX5_waysOfBest_109 : decode cX5_waysOfBest 109 = .ok (.iload 5, 2) := by decide +kernel
theorem dX5_waysOfBest_111 : decode cX5_waysOfBest 111 = .ok (.laload, 1) := by decide +kernel
theorem dX5_waysOfBest_112 : decode cX5_waysOfBest 112 = .ok (.ladd, 1) := by decide +kernel
theorem dX5_waysOfBest_113 : decode cX5_waysOfBest 113 = .ok (.lstore_n 3, 1) := by decide +kernel
theorem dX5_waysOfBest_114 : decode cX5_waysOfBest 114 = .ok (.iinc 5 1, 3) := by decide +kernel
theorem dX5_waysOfBest_117 : decode cX5_waysOfBest 117 = .ok (.goto (-20), 3) := by decide +kernel
theorem dX5_waysOfBest_120 : decode cX5_waysOfBest 120 = .ok (.ldc2_w 83, 3) := by decide +kernel
theorem dX5_waysOfBest_123 : decode cX5_waysOfBest 123 = .ok (.lload_n 3, 1) := by decide +kernel
theorem dX5_waysOfBest_124 : decode cX5_waysOfBest 124 = .ok (.invokestatic 85, 3) := by decide +kernel
theorem dX5_waysOfBest_127 : decode cX5_waysOfBest 127 = .ok (.lreturn, 1) := by decide +kernel
theorem dX5_openStep_0 : decode cX5_openStep 0 = .ok (.aload_n 0, 1) := by decide +kernel
theorem dX5_openStep_1 : decode cX5_openStep 1 = .ok (.getfield 24, 3) := by decide +kernel
theorem dX5_openStep_4 : decode cX5_openStep 4 = .ok (.iload_n 3, 1) := by decide +kernel
theorem dX5_openStep_5 : decode cX5_openStep 5 = .ok (.invokevirtual 91, 3) := by decide +kernel
theorem dX5_openStep_8 : decode cX5_openStep 8 = .ok (.istore 4, 2) := by decide +kernel
theorem dX5_openStep_10 : decode cX5_openStep 10 = .ok (.aload_n 0, 1) := by decide +kernel
theorem dX5_openStep_11 : decode cX5_openStep 11 = .ok (.aload_n 0, 1) := by decide +kernel
theorem dX5_openStep_12 : decode cX5_openStep 12 = .ok (.getfield 24, 3) := by decide +kernel
theorem dX5_openStep_15 : decode cX5_openStep 15 = .ok (.getfield 95, 3) := by decide +kernel
theorem dX5_openStep_18 : decode cX5_openStep 18 = .ok (.iload_n 3, 1) := by decide +kernel
theorem dX5_openStep_19 : decode cX5_openStep 19 = .ok (.baload, 1) := by decide +kernel
theorem dX5_openStep_20 : decode cX5_openStep 20 = .ok (.ifCond .eq 7, 3) := by decide +kernel
theorem dX5_openStep_23 : decode cX5_openStep 23 = .ok (.iconst 0, 1) := by decide +kernel
theorem dX5_openStep_24 : decode cX5_openStep 24 = .ok (.goto 14, 3) := by decide +kernel
theorem dX5_openStep_27 : decode cX5_openStep 27 = .ok (.iconst 0, 1) := by decide +kernel
theorem dX5_openStep_28 : decode cX5_openStep 28 = .ok (.iload 4, 2) := by decide +kernel
theorem dX5_openStep_30 : decode cX5_openStep 30 = .ok (.aload_n 1, 1) := by decide +kernel
theorem dX5_openStep_31 : decode cX5_openStep 31 = .ok (.getfield 99, 3) := by decide +kernel
theorem dX5_openStep_34 : decode cX5_openStep 34 = .ok (.isub, 1) := by decide +kernel
theorem dX5_openStep_35 : decode cX5_openStep 35 = .ok (.invokestatic 102, 3) := by decide +kernel
theorem dX5_openStep_38 : decode cX5_openStep 38 = .ok (.putfield 104, 3) := by decide +kernel
theorem dX5_openStep_41 : decode cX5_openStep 41 = .ok (.aload_n 0, 1) := by decide +kernel
theorem dX5_openStep_42 : decode cX5_openStep 42 = .ok (.aload_n 0, 1) := by decide +kernel
theorem dX5_openStep_43 : decode cX5_openStep 43 = .ok (.getfield 24, 3) := by decide +kernel
theorem dX5_openStep_46 : decode cX5_openStep 46 = .ok (.getfield 95, 3) := by decide +kernel
theorem dX5_openStep_49 : decode cX5_openStep 49 = .ok (.iload_n 3, 1) := by decide +kernel
theorem dX5_openStep_50 : decode cX5_openStep 50 = .ok (.baload, 1) := by decide +kernel
theorem dX5_openStep_51 : decode cX5_openStep 51 = .ok (.ifCond .eq 7, 3) := by decide +kernel
theorem dX5_openStep_54 : decode cX5_openStep 54 = .ok (.iconst 0, 1) := by decide +kernel
theorem dX5_openStep_55 : decode cX5_openStep 55 = .ok (.goto 14, 3) := by decide +kernel
theorem dX5_openStep_58 : decode cX5_openStep 58 = .ok (.iconst 0, 1) := by decide +kernel
theorem dX5_openStep_59 : decode cX5_openStep 59 = .ok (.aload_n 1, 1) := by decide +kernel
theorem dX5_openStep_60 : decode cX5_openStep 60 = .ok (.getfield 107, 3) := by decide +kernel
theorem dX5_openStep_63 : decode cX5_openStep 63 = .ok (.iload 4, 2) := by decide +kernel
theorem dX5_openStep_65 : decode cX5_openStep 65 = .ok (.isub, 1) := by decide +kernel
theorem dX5_openStep_66 : decode cX5_openStep 66 = .ok (.invokestatic 110, 3) := by decide +kernel
theorem dX5_openStep_69 : decode cX5_openStep 69 = .ok (.putfield 113, 3) := by decide +kernel
theorem dX5_openStep_72 : decode cX5_openStep 72 = .ok (.aload_n 0, 1) := by decide +kernel
theorem dX5_openStep_73 : decode cX5_openStep 73 = .ok (.aload_n 1, 1) := by decide +kernel
theorem dX5_openStep_74 : decode cX5_openStep 74 = .ok (.getfield 116, 3) := by decide +kernel
theorem dX5_openStep_77 : decode cX5_openStep 77 = .ok (.iload 4, 2) := by decide +kernel
theorem dX5_openStep_79 : decode cX5_openStep 79 = .ok (.iadd, 1) := by decide +kernel
theorem dX5_openStep_80 : decode cX5_openStep 80 = .ok (.putfield 119, 3) := by decide +kernel
theorem dX5_openStep_83 : decode cX5_openStep 83 = .ok (.aload_n 0, 1) := by decide +kernel
theorem dX5_openStep_84 : decode cX5_openStep 84 = .ok (.aload_n 1, 1) := by decide +kernel
theorem dX5_openStep_85 : decode cX5_openStep 85 = .ok (.getfield 122, 3) := by decide +kernel
theorem dX5_openStep_88 : decode cX5_openStep 88 = .ok (.iload 4, 2) := by decide +kernel
theorem dX5_openStep_90 : decode cX5_openStep 90 = .ok (.isub, 1) := by decide +kernel
theorem dX5_openStep_91 : decode cX5_openStep 91 = .ok (.putfield 125, 3) := by decide +kernel
theorem dX5_openStep_94 : decode cX5_openStep 94 = .ok (.aload_n 0, 1) := by decide +kernel
theorem dX5_openStep_95 : decode cX5_openStep 95 = .ok (.iload_n 2, 1) := by decide +kernel
theorem dX5_openStep_96 : decode cX5_openStep 96 = .ok (.iload_n 3, 1) := by decide +kernel
theorem dX5_openStep_97 : decode cX5_openStep 97 = .ok (.invokevirtual 128, 3) := by decide +kernel
theorem dX5_openStep_100 : decode cX5_openStep 100 = .ok (.lstore 5, 2) := by decide +kernel
theorem dX5_openStep_102 : decode cX5_openStep 102 = .ok (.iload_n 2, 1) := by decide +kernel
theorem dX5_openStep_103 : decode cX5_openStep 103 = .ok (.invokestatic 131, 3) := by decide +kernel
theorem dX5_openStep_106 : decode cX5_openStep 106 = .ok (.istore 7, 2) := by decide +kernel
theorem dX5_openStep_108 : decode cX5_openStep 108 = .ok (.aload_n 0, 1) := by decide +kernel
theorem dX5_openStep_109 : decode cX5_openStep 109 = .ok (.getfield 104, 3) := by decide +kernel
theorem dX5_openStep_112 : decode cX5_openStep 112 = .ok (.istore 8, 2) := by decide +kernel
theorem dX5_openStep_114 : decode cX5_openStep 114 = .ok (.iload 8, 2) := by decide +kernel
theorem dX5_openStep_116 : decode cX5_openStep 116 = .ok (.aload_n 0, 1) := by decide +kernel
theorem dX5_openStep_117 : decode cX5_openStep 117 = .ok (.getfield 113, 3) := by decide +kernel
theorem dX5_openStep_120 : decode cX5_openStep 120 = .ok (.if_icmp .gt 49, 3) := by decide +kernel
theorem dX5_openStep_123 : decode cX5_openStep 123 = .ok (.aload_n 0, 1) := by decide +kernel
theorem dX5_openStep_124 : decode cX5_openStep 124 = .ok (.getfield 15, 3) := by decide +kernel
theorem dX5_openStep_127 : decode cX5_openStep 127 = .ok (.iload 8, 2) := by decide +kernel
theorem dX5_openStep_129 : decode cX5_openStep 129 = .ok (.bipush 40, 2) := by decide +kernel
theorem dX5_openStep_131 : decode cX5_openStep 131 = .ok (.iadd, 1) := by decide +kernel
theorem dX5_openStep_132 : decode cX5_openStep 132 = .ok (.aload_n 0, 1) := by decide +kernel
theorem dX5_openStep_133 : decode cX5_openStep 133 = .ok (.getfield 24, 3) := by decide +kernel
theorem dX5_openStep_136 : decode cX5_openStep 136 = .ok (.aload_n 1, 1) := by decide +kernel
theorem dX5_openStep_137 : decode cX5_openStep 137 = .ok (.iload_n 3, 1) := by decide +kernel
theorem dX5_openStep_138 : decode cX5_openStep 138 = .ok (.iload 8, 2) := by decide +kernel
theorem dX5_openStep_140 : decode cX5_openStep 140 = .ok (.invokevirtual 136, 3) := by decide +kernel
theorem dX5_openStep_143 : decode cX5_openStep 143 = .ok (.ifCond .eq 16, 3) := by decide +kernel
theorem dX5_openStep_146 : decode cX5_openStep 146 = .ok (.aload_n 1, 1) := by decide +kernel
theorem dX5_openStep_147 : decode cX5_openStep 147 = .ok (.iload 8, 2) := by decide +kernel
theorem dX5_openStep_149 : decode cX5_openStep 149 = .ok (.lload 5, 2) := by decide +kernel
theorem dX5_openStep_151 : decode cX5_openStep 151 = .ok (.iload 7, 2) := by decide +kernel
theorem dX5_openStep_153 : decode cX5_openStep 153 = .ok (.invokevirtual 140, 3) := by decide +kernel
theorem dX5_openStep_156 : decode cX5_openStep 156 = .ok (.goto 6, 3) := by decide +kernel
theorem dX5_openStep_159 : decode cX5_openStep 159 = .ok (.ldc2_w 43, 3) := by decide +kernel
theorem dX5_openStep_162 : decode cX5_openStep 162 = .ok (.lastore, 1) := by decide +kernel
theorem dX5_openStep_163 : decode cX5_openStep 163 = .ok (.iinc 8 1, 3) := by decide +kernel
theorem dX5_openStep_166 : decode cX5_openStep 166 = .ok (.goto (-52), 3) := by decide +kernel
theorem dX5_openStep_169 : decode cX5_openStep 169 = .ok (.return_, 1) := by decide +kernel
theorem dX5_sumOfPrices_0 : decode cX5_sumOfPrices 0 = .ok (.lconst 0, 1) := by decide +kernel
theorem dX5_sumOfPrices_1 : decode cX5_sumOfPrices 1 = .ok (.lstore_n 3, 1) := by decide +kernel
theorem dX5_sumOfPrices_2 : decode cX5_sumOfPrices 2 = .ok (.iconst 0, 1) := by decide +kernel
theorem dX5_sumOfPrices_3 : decode cX5_sumOfPrices 3 = .ok (.istore 5, 2) := by decide +kernel
theorem dX5_sumOfPrices_5 : decode cX5_sumOfPrices 5 = .ok (.iload 5, 2) := by decide +kernel
theorem dX5_sumOfPrices_7 : decode cX5_sumOfPrices 7 = .ok (.iconst 4, 1) := by decide +kernel
theorem dX5_sumOfPrices_8 : decode cX5_sumOfPrices 8 = .ok (.if_icmp .ge 37, 3) := by decide +kernel
theorem dX5_sumOfPrices_11 : decode cX5_sumOfPrices 11 = .ok (.lload_n 3, 1) := by decide +kernel
theorem dX5_sumOfPrices_12 : decode cX5_sumOfPrices 12 = .ok (.iload_n 1, 1) := by decide +kernel
theorem dX5_sumOfPrices_13 : decode cX5_sumOfPrices 13 = .ok (.iload 5, 2) := by decide +kernel
theorem dX5_sumOfPrices_15 : decode cX5_sumOfPrices 15 = .ok (.invokestatic 144, 3) := by decide +kernel
theorem dX5_sumOfPrices_18 : decode cX5_sumOfPrices 18 = .ok (.ifCond .eq 18, 3) := by decide +kernel
theorem dX5_sumOfPrices_21 : decode cX5_sumOfPrices 21 = .ok (.aload_n 0, 1) := by decide +kernel
theorem dX5_sumOfPrices_22 : decode cX5_sumOfPrices 22 = .ok (.getfield 28, 3) := by decide +kernel
theorem dX5_sumOfPrices_25 : decode cX5_sumOfPrices 25 = .ok (.iload 5, 2) := by decide +kernel
theorem dX5_sumOfPrices_27 : decode cX5_sumOfPrices 27 = .ok (.aaload, 1) := by decide +kernel
theorem dX5_sumOfPrices_28 : decode cX5_sumOfPrices 28 = .ok (.iload_n 2, 1) := by decide +kernel
theorem dX5_sumOfPrices_29 : decode cX5_sumOfPrices 29 = .ok (.invokevirtual 148, 3) := by decide +kernel
theorem dX5_sumOfPrices_32 : decode cX5_sumOfPrices 32 = .ok (.i2l, 1) := by decide +kernel
theorem dX5_sumOfPrices_33 : decode cX5_sumOfPrices 33 = .ok (.goto 4, 3) := by decide +kernel
theorem dX5_sumOfPrices_36 : decode cX5_sumOfPrices 36 = .ok (.lconst 0, 1) := by decide +kernel
theorem dX5_sumOfPrices_37 : decode cX5_sumOfPrices 37 = .ok (.ladd, 1) := by decide +kernel
theorem dX5_sumOfPrices_38 : decode cX5_sumOfPrices 38 = .ok (.lstore_n 3, 1) := by decide +kernel
theorem dX5_sumOfPrices_39 : decode cX5_sumOfPrices 39 = .ok (.iinc 5 1, 3) := by decide +kernel
theorem dX5_sumOfPrices_42 : decode cX5_sumOfPrices 42 = .ok (.goto (-37), 3) := by decide +kernel
theorem dX5_sumOfPrices_45 : decode cX5_sumOfPrices 45 = .ok (.lload_n 3, 1) := by decide +kernel
theorem dX5_sumOfPrices_46 : decode cX5_sumOfPrices 46 = .ok (.lreturn, 1) := by decide +kernel
theorem dX5_firstMove_0 : decode cX5_firstMove 0 = .ok (.aload_n 0, 1) := by decide +kernel
theorem dX5_firstMove_1 : decode cX5_firstMove 1 = .ok (.getfield 104, 3) := by decide +kernel
theorem dX5_firstMove_4 : decode cX5_firstMove 4 = .ok (.aload_n 0, 1) := by decide +kernel
theorem dX5_firstMove_5 : decode cX5_firstMove 5 = .ok (.getfield 119, 3) := by decide +kernel
theorem dX5_firstMove_8 : decode cX5_firstMove 8 = .ok (.iload_n 1, 1) := by decide +kernel
theorem dX5_firstMove_9 : decode cX5_firstMove 9 = .ok (.isub, 1) := by decide +kernel
theorem dX5_firstMove_10 : decode cX5_firstMove 10 = .ok (.invokestatic 110, 3) := by decide +kernel
theorem dX5_firstMove_13 : decode cX5_firstMove 13 = .ok (.ireturn, 1) := by decide +kernel
theorem dX5_lastMove_0 : decode cX5_lastMove 0 = .ok (.aload_n 0, 1) := by decide +kernel
theorem dX5_lastMove_1 : decode cX5_lastMove 1 = .ok (.getfield 113, 3) := by decide +kernel
theorem dX5_lastMove_4 : decode cX5_lastMove 4 = .ok (.aload_n 0, 1) := by decide +kernel
theorem dX5_lastMove_5 : decode cX5_lastMove 5 = .ok (.getfield 125, 3) := by decide +kernel
theorem dX5_lastMove_8 : decode cX5_lastMove 8 = .ok (.iload_n 1, 1) := by decide +kernel
theorem dX5_lastMove_9 : decode cX5_lastMove 9 = .ok (.isub, 1) := by decide +kernel
theorem dX5_lastMove_10 : decode cX5_lastMove 10 = .ok (.invokestatic 102, 3) := by decide +kernel
theorem dX5_lastMove_13 : decode cX5_lastMove 13 = .ok (.ireturn, 1) := by decide +kernel
theorem dX5_worthThrough_0 : decode cX5_worthThrough 0 = .ok (.aload_n 0, 1) := by decide +kernel
theorem dX5_worthThrough_1 : decode cX5_worthThrough 1 = .ok (.getfield 15, 3) := by decide +kernel
theorem dX5_worthThrough_4 : decode cX5_worthThrough 4 = .ok (.iload_n 3, 1) := by decide +kernel
theorem dX5_worthThrough_5 : decode cX5_worthThrough 5 = .ok (.bipush 40, 2) := by decide +kernel
theorem dX5_worthThrough_7 : decode cX5_worthThrough 7 = .ok (.iadd, 1) := by decide +kernel
theorem dX5_worthThrough_8 : decode cX5_worthThrough 8 = .ok (.laload, 1) := by decide +kernel
theorem dX5_worthThrough_9 : decode cX5_worthThrough 9 = .ok (.lstore 4, 2) := by decide +kernel
theorem dX5_worthThrough_11 : decode cX5_worthThrough 11 = .ok (.aload_n 0, 1) := by decide +kernel
theorem dX5_worthThrough_12 : decode cX5_worthThrough 12 = .ok (.getfield 9, 3) := by decide +kernel
theorem dX5_worthThrough_15 : decode cX5_worthThrough 15 = .ok (.iload_n 1, 1) := by decide +kernel
theorem dX5_worthThrough_16 : decode cX5_worthThrough 16 = .ok (.iconst 1, 1) := by decide +kernel
theorem dX5_worthThrough_17 : decode cX5_worthThrough 17 = .ok (.iadd, 1) := by decide +kernel
theorem dX5_worthThrough_18 : decode cX5_worthThrough 18 = .ok (.bipush 61, 2) := by decide +kernel
theorem dX5_worthThrough_20 : decode cX5_worthThrough 20 = .ok (.imul, 1) := by decide +kernel
theorem dX5_worthThrough_21 : decode cX5_worthThrough 21 = .ok (.iload_n 2, 1) := by decide +kernel
theorem dX5_worthThrough_22 : decode cX5_worthThrough 22 = .ok (.iadd, 1) := by decide +kernel
theorem dX5_worthThrough_23 : decode cX5_worthThrough 23 = .ok (.iload_n 3, 1) := by decide +kernel
theorem dX5_worthThrough_24 : decode cX5_worthThrough 24 = .ok (.iadd, 1) := by decide +kernel
theorem dX5_worthThrough_25 : decode cX5_worthThrough 25 = .ok (.laload, 1) := by decide +kernel
theorem dX5_worthThrough_26 : decode cX5_worthThrough 26 = .ok (.lstore 6, 2) := by decide +kernel
theorem dX5_worthThrough_28 : decode cX5_worthThrough 28 = .ok (.lload 4, 2) := by decide +kernel
theorem dX5_worthThrough_30 : decode cX5_worthThrough 30 = .ok (.ldc2_w 43, 3) := by decide +kernel
theorem dX5_worthThrough_33 : decode cX5_worthThrough 33 = .ok (.lcmp, 1) := by decide +kernel
theorem dX5_worthThrough_34 : decode cX5_worthThrough 34 = .ok (.ifCond .eq 12, 3) := by decide +kernel
theorem dX5_worthThrough_37 : decode cX5_worthThrough 37 = .ok (.lload 6, 2) := by decide +kernel
theorem dX5_worthThrough_39 : decode cX5_worthThrough 39 = .ok (.ldc2_w 43, 3) := by decide +kernel
theorem dX5_worthThrough_42 : decode cX5_worthThrough 42 = .ok (.lcmp, 1) := by decide +kernel
theorem dX5_worthThrough_43 : decode cX5_worthThrough 43 = .ok (.ifCond .ne 9, 3) := by decide +kernel
theorem dX5_worthThrough_46 : decode cX5_worthThrough 46 = .ok (.ldc2_w 43, 3) := by decide +kernel
theorem dX5_worthThrough_49 : decode cX5_worthThrough 49 = .ok (.goto 8, 3) := by decide +kernel
theorem dX5_worthThrough_52 : decode cX5_worthThrough 52 = .ok (.lload 4, 2) := by decide +kernel
theorem dX5_worthThrough_54 : decode cX5_worthThrough 54 = .ok (.lload 6, 2) := by decide +kernel
theorem dX5_worthThrough_56 : decode cX5_worthThrough 56 = .ok (.ladd, 1) := by decide +kernel
theorem dX5_worthThrough_57 : decode cX5_worthThrough 57 = .ok (.lreturn, 1) := by decide +kernel
theorem dX5_greatest_0 : decode cX5_greatest 0 = .ok (.ldc2_w 43, 3) := by decide +kernel
theorem dX5_greatest_3 : decode cX5_greatest 3 = .ok (.lstore_n 3, 1) := by decide +kernel
theorem dX5_greatest_4 : decode cX5_greatest 4 = .ok (.aload_n 0, 1) := by decide +kernel
theorem dX5_greatest_5 : decode cX5_greatest 5 = .ok (.iload_n 2, 1) := by decide +kernel
theorem dX5_greatest_6 : decode cX5_greatest 6 = .ok (.invokevirtual 153, 3) := by decide +kernel
theorem dX5_greatest_9 : decode cX5_greatest 9 = .ok (.istore 5, 2) := by decide +kernel
theorem dX5_greatest_11 : decode cX5_greatest 11 = .ok (.aload_n 0, 1) := by decide +kernel
theorem dX5_greatest_12 : decode cX5_greatest 12 = .ok (.iload_n 2, 1) := by decide +kernel
theorem dX5_greatest_13 : decode cX5_greatest 13 = .ok (.invokevirtual 156, 3) := by decide +kernel
theorem dX5_greatest_16 : decode cX5_greatest 16 = .ok (.istore 6, 2) := by decide +kernel
theorem dX5_greatest_18 : decode cX5_greatest 18 = .ok (.iload 6, 2) := by decide +kernel
theorem dX5_greatest_20 : decode cX5_greatest 20 = .ok (.iload 5, 2) := by decide +kernel
theorem dX5_greatest_22 : decode cX5_greatest 22 = .ok (.if_icmp .gt 29, 3) := by decide +kernel
theorem dX5_greatest_25 : decode cX5_greatest 25 = .ok (.aload_n 0, 1) := by decide +kernel
theorem dX5_greatest_26 : decode cX5_greatest 26 = .ok (.iload_n 1, 1) := by decide +kernel
theorem dX5_greatest_27 : decode cX5_greatest 27 = .ok (.iload_n 2, 1) := by decide +kernel
theorem dX5_greatest_28 : decode cX5_greatest 28 = .ok (.iload 6, 2) := by decide +kernel
theorem dX5_greatest_30 : decode cX5_greatest 30 = .ok (.invokevirtual 159, 3) := by decide +kernel
theorem dX5_greatest_33 : decode cX5_greatest 33 = .ok (.lstore 7, 2) := by decide +kernel
theorem dX5_greatest_35 : decode cX5_greatest 35 = .ok (.lload 7, 2) := by decide +kernel
theorem dX5_greatest_37 : decode cX5_greatest 37 = .ok (.lload_n 3, 1) := by decide +kernel
theorem dX5_greatest_38 : decode cX5_greatest 38 = .ok (.lcmp, 1) := by decide +kernel
theorem dX5_greatest_39 : decode cX5_greatest 39 = .ok (.ifCond .le 6, 3) := by decide +kernel
theorem dX5_greatest_42 : decode cX5_greatest 42 = .ok (.lload 7, 2) := by decide +kernel
theorem dX5_greatest_44 : decode cX5_greatest 44 = .ok (.lstore_n 3, 1) := by decide +kernel
theorem dX5_greatest_45 : decode cX5_greatest 45 = .ok (.iinc 6 1, 3) := by decide +kernel
theorem dX5_greatest_48 : decode cX5_greatest 48 = .ok (.goto (-30), 3) := by decide +kernel
theorem dX5_greatest_51 : decode cX5_greatest 51 = .ok (.lload_n 3, 1) := by decide +kernel
theorem dX5_greatest_52 : decode cX5_greatest 52 = .ok (.lreturn, 1) := by decide +kernel
theorem dX5_leastBest_0 : decode cX5_leastBest 0 = .ok (.aload_n 0, 1) := by decide +kernel
theorem dX5_leastBest_1 : decode cX5_leastBest 1 = .ok (.iload_n 2, 1) := by decide +kernel
theorem dX5_leastBest_2 : decode cX5_leastBest 2 = .ok (.invokevirtual 153, 3) := by decide +kernel
theorem dX5_leastBest_5 : decode cX5_leastBest 5 = .ok (.istore_n 3, 1) := by decide +kernel
theorem dX5_leastBest_6 : decode cX5_leastBest 6 = .ok (.aload_n 0, 1) := by decide +kernel
theorem dX5_leastBest_7 : decode cX5_leastBest 7 = .ok (.iload_n 2, 1) := by decide +kernel
theorem dX5_leastBest_8 : decode cX5_leastBest 8 = .ok (.invokevirtual 156, 3) := by decide +kernel
theorem dX5_leastBest_11 : decode cX5_leastBest 11 = .ok (.istore 4, 2) := by decide +kernel
theorem dX5_leastBest_13 : decode cX5_leastBest 13 = .ok (.iload 4, 2) := by decide +kernel
theorem dX5_leastBest_15 : decode cX5_leastBest 15 = .ok (.iload_n 3, 1) := by decide +kernel
theorem dX5_leastBest_16 : decode cX5_leastBest 16 = .ok (.if_icmp .gt 30, 3) := by decide +kernel
theorem dX5_leastBest_19 : decode cX5_leastBest 19 = .ok (.aload_n 0, 1) := by decide +kernel
theorem dX5_leastBest_20 : decode cX5_leastBest 20 = .ok (.iload_n 1, 1) := by decide +kernel
theorem dX5_leastBest_21 : decode cX5_leastBest 21 = .ok (.iload_n 2, 1) := by decide +kernel
theorem dX5_leastBest_22 : decode cX5_leastBest 22 = .ok (.iload 4, 2) := by decide +kernel
theorem dX5_leastBest_24 : decode cX5_leastBest 24 = .ok (.invokevirtual 159, 3) := by decide +kernel
theorem dX5_leastBest_27 : decode cX5_leastBest 27 = .ok (.aload_n 0, 1) := by decide +kernel
theorem dX5_leastBest_28 : decode cX5_leastBest 28 = .ok (.iload_n 1, 1) := by decide +kernel
theorem dX5_leastBest_29 : decode cX5_leastBest 29 = .ok (.iload_n 2, 1) := by decide +kernel
theorem dX5_leastBest_30 : decode cX5_leastBest 30 = .ok (.invokevirtual 163, 3) := by decide +kernel
theorem dX5_leastBest_33 : decode cX5_leastBest 33 = .ok (.lcmp, 1) := by decide +kernel
theorem dX5_leastBest_34 : decode cX5_leastBest 34 = .ok (.ifCond .ne 6, 3) := by decide +kernel
theorem dX5_leastBest_37 : decode cX5_leastBest 37 = .ok (.iload 4, 2) := by decide +kernel
theorem dX5_leastBest_39 : decode cX5_leastBest 39 = .ok (.ireturn, 1) := by decide +kernel
theorem dX5_leastBest_40 : decode cX5_leastBest 40 = .ok (.iinc 4 1, 3) := by decide +kernel
theorem dX5_leastBest_43 : decode cX5_leastBest 43 = .ok (.goto (-30), 3) := by decide +kernel
theorem dX5_leastBest_46 : decode cX5_leastBest 46 = .ok (.iconst 0, 1) := by decide +kernel
theorem dX5_leastBest_47 : decode cX5_leastBest 47 = .ok (.ireturn, 1) := by decide +kernel
theorem dX5_spreadWays_0 : decode cX5_spreadWays 0 = .ok (.aload_n 0, 1) := by decide +kernel
theorem dX5_spreadWays_1 : decode cX5_spreadWays 1 = .ok (.getfield 18, 3) := by decide +kernel
theorem dX5_spreadWays_4 : decode cX5_spreadWays 4 = .ok (.iload_n 2, 1) := by decide +kernel
theorem dX5_spreadWays_5 : decode cX5_spreadWays 5 = .ok (.laload, 1) := by decide +kernel
theorem dX5_spreadWays_6 : decode cX5_spreadWays 6 = .ok (.lconst 0, 1) := by decide +kernel
theorem dX5_spreadWays_7 : decode cX5_spreadWays 7 = .ok (.lcmp, 1) := by decide +kernel
theorem dX5_spreadWays_8 : decode cX5_spreadWays 8 = .ok (.ifCond .ne 4, 3) := by decide +kernel
theorem dX5_spreadWays_11 : decode cX5_spreadWays 11 = .ok (.return_, 1) := by decide +kernel
theorem dX5_spreadWays_12 : decode cX5_spreadWays 12 = .ok (.aload_n 0, 1) := by decide +kernel
theorem dX5_spreadWays_13 : decode cX5_spreadWays 13 = .ok (.iload_n 2, 1) := by decide +kernel
theorem dX5_spreadWays_14 : decode cX5_spreadWays 14 = .ok (.invokevirtual 153, 3) := by decide +kernel
theorem dX5_spreadWays_17 : decode cX5_spreadWays 17 = .ok (.istore_n 3, 1) := by decide +kernel
theorem dX5_spreadWays_18 : decode cX5_spreadWays 18 = .ok (.aload_n 0, 1) := by decide +kernel
theorem dX5_spreadWays_19 : decode cX5_spreadWays 19 = .ok (.iload_n 2, 1) := by decide +kernel
theorem dX5_spreadWays_20 : decode cX5_spreadWays 20 = .ok (.invokevirtual 156, 3) := by decide +kernel
theorem dX5_spreadWays_23 : decode cX5_spreadWays 23 = .ok (.istore 4, 2) := by decide +kernel
theorem dX5_spreadWays_25 : decode cX5_spreadWays 25 = .ok (.iload 4, 2) := by decide +kernel
theorem dX5_spreadWays_27 : decode cX5_spreadWays 27 = .ok (.iload_n 3, 1) := by decide +kernel
theorem dX5_spreadWays_28 : decode cX5_spreadWays 28 = .ok (.if_icmp .gt 58, 3) := by decide +kernel
theorem dX5_spreadWays_31 : decode cX5_spreadWays 31 = .ok (.aload_n 0, 1) := by decide +kernel
theorem dX5_spreadWays_32 : decode cX5_spreadWays 32 = .ok (.iload_n 1, 1) := by decide +kernel
theorem dX5_spreadWays_33 : decode cX5_spreadWays 33 = .ok (.iload_n 2, 1) := by decide +kernel
theorem dX5_spreadWays_34 : decode cX5_spreadWays 34 = .ok (.iload 4, 2) := by decide +kernel
theorem dX5_spreadWays_36 : decode cX5_spreadWays 36 = .ok (.invokevirtual 159, 3) := by decide +kernel
theorem dX5_spreadWays_39 : decode cX5_spreadWays 39 = .ok (.aload_n 0, 1) := by decide +kernel
theorem dX5_spreadWays_40 : decode cX5_spreadWays 40 = .ok (.iload_n 1, 1) := by decide +kernel
theorem dX5_spreadWays_41 : decode cX5_spreadWays 41 = .ok (.iload_n 2, 1) := by decide +kernel
theorem dX5_spreadWays_42 : decode cX5_spreadWays 42 = .ok (.invokevirtual 163, 3) := by decide +kernel
theorem dX5_spreadWays_45 : decode cX5_spreadWays 45 = .ok (.lcmp, 1) := by decide +kernel
theorem dX5_spreadWays_46 : decode cX5_spreadWays 46 = .ok (.ifCond .ne 34, 3) := by decide +kernel
theorem dX5_spreadWays_49 : decode cX5_spreadWays 49 = .ok (.aload_n 0, 1) := by decide +kernel
theorem dX5_spreadWays_50 : decode cX5_spreadWays 50 = .ok (.getfield 21, 3) := by decide +kernel
theorem dX5_spreadWays_53 : decode cX5_spreadWays 53 = .ok (.iload_n 2, 1) := by decide +kernel
theorem dX5_spreadWays_54 : decode cX5_spreadWays 54 = .ok (.iload 4, 2) := by decide +kernel
theorem dX5_spreadWays_56 : decode cX5_spreadWays 56 = .ok (.iadd, 1) := by decide +kernel
theorem dX5_spreadWays_57 : decode cX5_spreadWays 57 = .ok (.ldc2_w 83, 3) := by decide +kernel
theorem dX5_spreadWays_60 : decode cX5_spreadWays 60 = .ok (.aload_n 0, 1) := by decide +kernel
theorem dX5_spreadWays_61 : decode cX5_spreadWays 61 = .ok (.getfield 21, 3) := by decide +kernel
theorem dX5_spreadWays_64 : decode cX5_spreadWays 64 = .ok (.iload_n 2, 1) := by decide +kernel
theorem dX5_spreadWays_65 : decode cX5_spreadWays 65 = .ok (.iload 4, 2) := by decide +kernel
theorem dX5_spreadWays_67 : decode cX5_spreadWays 67 = .ok (.iadd, 1) := by decide +kernel
theorem dX5_spreadWays_68 : decode cX5_spreadWays 68 = .ok (.laload, 1) := by decide +kernel
theorem dX5_spreadWays_69 : decode cX5_spreadWays 69 = .ok (.aload_n 0, 1) := by decide +kernel
theorem dX5_spreadWays_70 : decode cX5_spreadWays 70 = .ok (.getfield 18, 3) := by decide +kernel
theorem dX5_spreadWays_73 : decode cX5_spreadWays 73 = .ok (.iload_n 2, 1) := by decide +kernel
theorem dX5_spreadWays_74 : decode cX5_spreadWays 74 = .ok (.laload, 1) := by decide +kernel
theorem dX5_spreadWays_75 : decode cX5_spreadWays 75 = .ok (.ladd, 1) := by decide +kernel
theorem dX5_spreadWays_76 : decode cX5_spreadWays 76 = .ok (.invokestatic 85, 3) := by decide +kernel
theorem dX5_spreadWays_79 : decode cX5_spreadWays 79 = .ok (.lastore, 1) := by decide +kernel
theorem dX5_spreadWays_80 : decode cX5_spreadWays 80 = .ok (.iinc 4 1, 3) := by decide +kernel
theorem dX5_spreadWays_83 : decode cX5_spreadWays 83 = .ok (.goto (-58), 3) := by decide +kernel
theorem dX5_spreadWays_86 : decode cX5_spreadWays 86 = .ok (.return_, 1) := by decide +kernel
theorem dX7_init_0 : decode cX7_init 0 = .ok (.aload_n 0, 1) := by decide +kernel
theorem dX7_init_1 : decode cX7_init 1 = .ok (.invokespecial 3, 3) := by decide +kernel
theorem dX7_init_4 : decode cX7_init 4 = .ok (.aload_n 0, 1) := by decide +kernel
theorem dX7_init_5 : decode cX7_init 5 = .ok (.new 9, 3) := by decide +kernel
theorem dX7_init_8 : decode cX7_init 8 = .ok (.dup, 1) := by decide +kernel
theorem dX7_init_9 : decode cX7_init 9 = .ok (.invokespecial 11, 3) := by decide +kernel
theorem dX7_init_12 : decode cX7_init 12 = .ok (.putfield 12, 3) := by decide +kernel
theorem dX7_init_15 : decode cX7_init 15 = .ok (.aload_n 0, 1) := by decide +kernel
theorem dX7_init_16 : decode cX7_init 16 = .ok (.iconst 4, 1) := by decide +kernel
theorem dX7_init_17 : decode cX7_init 17 = .ok (.anewarray 16, 3) := by decide +kernel
theorem dX7_init_20 : decode cX7_init 20 = .ok (.putfield 18, 3) := by decide +kernel
theorem dX7_init_23 : decode cX7_init 23 = .ok (.iconst 0, 1) := by decide +kernel
theorem dX7_init_24 : decode cX7_init 24 = .ok (.istore_n 1, 1) := by decide +kernel
theorem dX7_init_25 : decode cX7_init 25 = .ok (.iload_n 1, 1) := by decide +kernel
theorem dX7_init_26 : decode cX7_init 26 = .ok (.iconst 4, 1) := by decide +kernel
theorem dX7_init_27 : decode cX7_init 27 = .ok (.if_icmp .ge 22, 3) := by decide +kernel
theorem dX7_init_30 : decode cX7_init 30 = .ok (.aload_n 0, 1) := by decide +kernel
theorem dX7_init_31 : decode cX7_init 31 = .ok (.getfield 18, 3) := by decide +kernel
theorem dX7_init_34 : decode cX7_init 34 = .ok (.iload_n 1, 1) := by decide +kernel
theorem dX7_init_35 : decode cX7_init 35 = .ok (.new 16, 3) := by decide +kernel
theorem dX7_init_38 : decode cX7_init 38 = .ok (.dup, 1) := by decide +kernel
theorem dX7_init_39 : decode cX7_init 39 = .ok (.invokespecial 22, 3) := by decide +kernel
theorem dX7_init_42 : decode cX7_init 42 = .ok (.aastore, 1) := by decide +kernel
theorem dX7_init_43 : decode cX7_init 43 = .ok (.iinc 1 1, 3) := by decide +kernel
theorem dX7_init_46 : decode cX7_init 46 = .ok (.goto (-21), 3) := by decide +kernel
theorem dX7_init_49 : decode cX7_init 49 = .ok (.aload_n 0, 1) := by decide +kernel
theorem dX7_init_50 : decode cX7_init 50 = .ok (.iconst 4, 1) := by decide +kernel
theorem dX7_init_51 : decode cX7_init 51 = .ok (.anewarray 23, 3) := by decide +kernel
theorem dX7_init_54 : decode cX7_init 54 = .ok (.putfield 25, 3) := by decide +kernel
theorem dX7_init_57 : decode cX7_init 57 = .ok (.iconst 0, 1) := by decide +kernel
theorem dX7_init_58 : decode cX7_init 58 = .ok (.istore_n 1, 1) := by decide +kernel
theorem dX7_init_59 : decode cX7_init 59 = .ok (.iload_n 1, 1) := by decide +kernel
theorem dX7_init_60 : decode cX7_init 60 = .ok (.iconst 4, 1) := by decide +kernel
theorem dX7_init_61 : decode cX7_init 61 = .ok (.if_icmp .ge 22, 3) := by decide +kernel
theorem dX7_init_64 : decode cX7_init 64 = .ok (.aload_n 0, 1) := by decide +kernel
theorem dX7_init_65 : decode cX7_init 65 = .ok (.getfield 25, 3) := by decide +kernel
theorem dX7_init_68 : decode cX7_init 68 = .ok (.iload_n 1, 1) := by decide +kernel
theorem dX7_init_69 : decode cX7_init 69 = .ok (.new 23, 3) := by decide +kernel
theorem dX7_init_72 : decode cX7_init 72 = .ok (.dup, 1) := by decide +kernel
theorem dX7_init_73 : decode cX7_init 73 = .ok (.invokespecial 29, 3) := by decide +kernel
theorem dX7_init_76 : decode cX7_init 76 = .ok (.aastore, 1) := by decide +kernel
theorem dX7_init_77 : decode cX7_init 77 = .ok (.iinc 1 1, 3) := by decide +kernel
theorem dX7_init_80 : decode cX7_init 80 = .ok (.goto (-21), 3) := by decide +kernel
theorem dX7_init_83 : decode cX7_init 83 = .ok (.aload_n 0, 1) := by decide +kernel
theorem dX7_init_84 : decode cX7_init 84 = .ok (.new 30, 3) := by decide +kernel
theorem dX7_init_87 : decode cX7_init 87 = .ok (.dup, 1) := by decide +kernel
theorem dX7_init_88 : decode cX7_init 88 = .ok (.aload_n 0, 1) := by decide +kernel
theorem dX7_init_89 : decode cX7_init 89 = .ok (.getfield 12, 3) := by decide +kernel
theorem dX7_init_92 : decode cX7_init 92 = .ok (.aload_n 0, 1) := by decide +kernel
theorem dX7_init_93 : decode cX7_init 93 = .ok (.getfield 18, 3) := by decide +kernel
theorem dX7_init_96 : decode cX7_init 96 = .ok (.invokespecial 32, 3) := by decide +kernel
theorem dX7_init_99 : decode cX7_init 99 = .ok (.putfield 35, 3) := by decide +kernel
theorem dX7_init_102 : decode cX7_init 102 = .ok (.aload_n 0, 1) := by decide +kernel
theorem dX7_init_103 : decode cX7_init 103 = .ok (.new 39, 3) := by decide +kernel
theorem dX7_init_106 : decode cX7_init 106 = .ok (.dup, 1) := by decide +kernel
theorem dX7_init_107 : decode cX7_init 107 = .ok (.invokespecial 41, 3) := by decide +kernel
theorem dX7_init_110 : decode cX7_init 110 = .ok (.putfield 42, 3) := by decide +kernel
theorem dX7_init_113 : decode cX7_init 113 = .ok (.aload_n 0, 1) := by decide +kernel
theorem dX7_init_114 : decode cX7_init 114 = .ok (.new 46, 3) := by decide +kernel
theorem dX7_init_117 : decode cX7_init 117 = .ok (.dup, 1) := by decide +kernel
theorem dX7_init_118 : decode cX7_init 118 = .ok (.invokespecial 48, 3) := by decide +kernel
theorem dX7_init_121 : decode cX7_init 121 = .ok (.putfield 49, 3) := by decide +kernel
theorem dX7_init_124 : decode cX7_init 124 = .ok (.aload_n 0, 1) := by decide +kernel
theorem dX7_init_125 : decode cX7_init 125 = .ok (.new 53, 3) := by decide +kernel
theorem dX7_init_128 : decode cX7_init 128 = .ok (.dup, 1) := by decide +kernel
theorem dX7_init_129 : decode cX7_init 129 = .ok (.invokespecial 55, 3) := by decide +kernel
theorem dX7_init_132 : decode cX7_init 132 = .ok (.putfield 56, 3) := by decide +kernel
theorem dX7_init_135 : decode cX7_init 135 = .ok (.return_, 1) := by decide +kernel
theorem dX7_time_0 : decode cX7_time 0 = .ok (.iload_n 1, 1) := by decide +kernel
theorem dX7_time_1 : decode cX7_time 1 = .ok (.iconst 1, 1) := by decide +kernel
theorem dX7_time_2 : decode cX7_time 2 = .ok (.bipush 36, 2) := by decide +kernel
theorem dX7_time_4 : decode cX7_time 4 = .ok (.invokestatic 60, 3) := by decide +kernel
theorem dX7_time_7 : decode cX7_time 7 = .ok (.ifCond .ne 7, 3) := by decide +kernel
theorem dX7_time_10 : decode cX7_time 10 = .ok (.ldc2_w 64, 3) := by decide +kernel
theorem dX7_time_13 : decode cX7_time 13 = .ok (.lreturn, 1) := by decide +kernel
theorem dX7_time_14 : decode cX7_time 14 = .ok (.aload_n 0, 1) := by decide +kernel
theorem dX7_time_15 : decode cX7_time 15 = .ok (.getfield 42, 3) := by decide +kernel
theorem dX7_time_18 : decode cX7_time 18 = .ok (.getfield 66, 3) := by decide +kernel
theorem dX7_time_21 : decode cX7_time 21 = .ok (.istore_n 2, 1) := by decide +kernel
theorem dX7_time_22 : decode cX7_time 22 = .ok (.aload_n 0, 1) := by decide +kernel
theorem dX7_time_23 : decode cX7_time 23 = .ok (.getfield 12, 3) := by decide +kernel
theorem dX7_time_26 : decode cX7_time 26 = .ok (.iload_n 1, 1) := by decide +kernel
theorem dX7_time_27 : decode cX7_time 27 = .ok (.putfield 70, 3) := by decide +kernel
theorem dX7_time_30 : decode cX7_time 30 = .ok (.aload_n 0, 1) := by decide +kernel
theorem dX7_time_31 : decode cX7_time 31 = .ok (.getfield 42, 3) := by decide +kernel
theorem dX7_time_34 : decode cX7_time 34 = .ok (.iconst 0, 1) := by decide +kernel
theorem dX7_time_35 : decode cX7_time 35 = .ok (.putfield 66, 3) := by decide +kernel
theorem dX7_time_38 : decode cX7_time 38 = .ok (.iconst 0, 1) := by decide +kernel
theorem dX7_time_39 : decode cX7_time 39 = .ok (.istore_n 3, 1) := by decide +kernel
theorem dX7_time_40 : decode cX7_time 40 = .ok (.iload_n 3, 1) := by decide +kernel
theorem dX7_time_41 : decode cX7_time 41 = .ok (.iconst 4, 1) := by decide +kernel
theorem dX7_time_42 : decode cX7_time 42 = .ok (.if_icmp .ge 18, 3) := by decide +kernel
theorem dX7_time_45 : decode cX7_time 45 = .ok (.aload_n 0, 1) := by decide +kernel
theorem dX7_time_46 : decode cX7_time 46 = .ok (.getfield 25, 3) := by decide +kernel
theorem dX7_time_49 : decode cX7_time 49 = .ok (.iload_n 3, 1) := by decide +kernel
theorem dX7_time_50 : decode cX7_time 50 = .ok (.aaload, 1) := by decide +kernel
theorem dX7_time_51 : decode cX7_time 51 = .ok (.invokevirtual 73, 3) := by decide +kernel
theorem dX7_time_54 : decode cX7_time 54 = .ok (.iinc 3 1, 3) := by decide +kernel
theorem dX7_time_57 : decode cX7_time 57 = .ok (.goto (-17), 3) := by decide +kernel
theorem dX7_time_60 : decode cX7_time 60 = .ok (.iload_n 2, 1) := by decide +kernel
theorem dX7_time_61 : decode cX7_time 61 = .ok (.i2l, 1) := by decide +kernel
theorem dX7_time_62 : decode cX7_time 62 = .ok (.lreturn, 1) := by decide +kernel
theorem dX7_dark_0 : decode cX7_dark 0 = .ok (.iload_n 1, 1) := by decide +kernel
theorem dX7_dark_1 : decode cX7_dark 1 = .ok (.invokestatic 76, 3) := by decide +kernel
theorem dX7_dark_4 : decode cX7_dark 4 = .ok (.ifCond .eq 12, 3) := by decide +kernel
theorem dX7_dark_7 : decode cX7_dark 7 = .ok (.iload_n 2, 1) := by decide +kernel
theorem dX7_dark_8 : decode cX7_dark 8 = .ok (.iconst 0, 1) := by decide +kernel
theorem dX7_dark_9 : decode cX7_dark 9 = .ok (.iconst 1, 1) := by decide +kernel
theorem dX7_dark_10 : decode cX7_dark 10 = .ok (.invokestatic 60, 3) := by decide +kernel
theorem dX7_dark_13 : decode cX7_dark 13 = .ok (.ifCond .ne 7, 3) := by decide +kernel
theorem dX7_dark_16 : decode cX7_dark 16 = .ok (.ldc2_w 64, 3) := by decide +kernel
theorem dX7_dark_19 : decode cX7_dark 19 = .ok (.lreturn, 1) := by decide +kernel
theorem dX7_dark_20 : decode cX7_dark 20 = .ok (.aload_n 0, 1) := by decide +kernel
theorem dX7_dark_21 : decode cX7_dark 21 = .ok (.getfield 12, 3) := by decide +kernel
theorem dX7_dark_24 : decode cX7_dark 24 = .ok (.getfield 80, 3) := by decide +kernel
theorem dX7_dark_27 : decode cX7_dark 27 = .ok (.iload_n 1, 1) := by decide +kernel
theorem dX7_dark_28 : decode cX7_dark 28 = .ok (.baload, 1) := by decide +kernel
theorem dX7_dark_29 : decode cX7_dark 29 = .ok (.istore_n 3, 1) := by decide +kernel
theorem dX7_dark_30 : decode cX7_dark 30 = .ok (.aload_n 0, 1) := by decide +kernel
theorem dX7_dark_31 : decode cX7_dark 31 = .ok (.getfield 12, 3) := by decide +kernel
theorem dX7_dark_34 : decode cX7_dark 34 = .ok (.getfield 80, 3) := by decide +kernel
theorem dX7_dark_37 : decode cX7_dark 37 = .ok (.iload_n 1, 1) := by decide +kernel
theorem dX7_dark_38 : decode cX7_dark 38 = .ok (.iload_n 2, 1) := by decide +kernel
theorem dX7_dark_39 : decode cX7_dark 39 = .ok (.iconst 1, 1) := by decide +kernel
theorem dX7_dark_40 : decode cX7_dark 40 = .ok (.if_icmp .ne 7, 3) := by decide +kernel
theorem dX7_dark_43 : decode cX7_dark 43 = .ok (.iconst 1, 1) := by decide +kernel
theorem dX7_dark_44 : decode cX7_dark 44 = .ok (.goto 4, 3) := by decide +kernel
theorem dX7_dark_47 : decode cX7_dark 47 = .ok (.iconst 0, 1) := by decide +kernel
theorem dX7_dark_48 : decode cX7_dark 48 = .ok (.bastore, 1) := by decide +kernel
theorem dX7_dark_49 : decode cX7_dark 49 = .ok (.iload_n 3, 1) := by decide +kernel
theorem dX7_dark_50 : decode cX7_dark 50 = .ok (.invokestatic 84, 3) := by decide +kernel
theorem dX7_dark_53 : decode cX7_dark 53 = .ok (.lreturn, 1) := by decide +kernel
theorem dX7_keep_0 : decode cX7_keep 0 = .ok (.iload_n 1, 1) := by decide +kernel
theorem dX7_keep_1 : decode cX7_keep 1 = .ok (.invokestatic 76, 3) := by decide +kernel
theorem dX7_keep_4 : decode cX7_keep 4 = .ok (.ifCond .eq 13, 3) := by decide +kernel
theorem dX7_keep_7 : decode cX7_keep 7 = .ok (.iload_n 2, 1) := by decide +kernel
theorem dX7_keep_8 : decode cX7_keep 8 = .ok (.iconst 0, 1) := by decide +kernel
theorem dX7_keep_9 : decode cX7_keep 9 = .ok (.bipush 10, 2) := by decide +kernel
theorem dX7_keep_11 : decode cX7_keep 11 = .ok (.invokestatic 60, 3) := by decide +kernel
theorem dX7_keep_14 : decode cX7_keep 14 = .ok (.ifCond .ne 7, 3) := by decide +kernel
theorem dX7_keep_17 : decode cX7_keep 17 = .ok (.ldc2_w 64, 3) := by decide +kernel
theorem dX7_keep_20 : decode cX7_keep 20 = .ok (.lreturn, 1) := by decide +kernel
theorem dX7_keep_21 : decode cX7_keep 21 = .ok (.aload_n 0, 1) := by decide +kernel
theorem dX7_keep_22 : decode cX7_keep 22 = .ok (.getfield 12, 3) := by decide +kernel
theorem dX7_keep_25 : decode cX7_keep 25 = .ok (.getfield 88, 3) := by decide +kernel
theorem dX7_keep_28 : decode cX7_keep 28 = .ok (.iload_n 1, 1) := by decide +kernel
theorem dX7_keep_29 : decode cX7_keep 29 = .ok (.iaload, 1) := by decide +kernel
theorem dX7_keep_30 : decode cX7_keep 30 = .ok (.istore_n 3, 1) := by decide +kernel
theorem dX7_keep_31 : decode cX7_keep 31 = .ok (.aload_n 0, 1) := by decide +kernel
theorem dX7_keep_32 : decode cX7_keep 32 = .ok (.getfield 12, 3) := by decide +kernel
theorem dX7_keep_35 : decode cX7_keep 35 = .ok (.getfield 88, 3) := by decide +kernel
theorem dX7_keep_38 : decode cX7_keep 38 = .ok (.iload_n 1, 1) := by decide +kernel
theorem dX7_keep_39 : decode cX7_keep 39 = .ok (.iload_n 2, 1) := by decide +kernel
theorem dX7_keep_40 : decode cX7_keep 40 = .ok (.iastore, 1) := by decide +kernel
theorem dX7_keep_41 : decode cX7_keep 41 = .ok (.iload_n 3, 1) := by decide +kernel
theorem dX7_keep_42 : decode cX7_keep 42 = .ok (.i2l, 1) := by decide +kernel
theorem dX7_keep_43 : decode cX7_keep 43 = .ok (.lreturn, 1) := by decide +kernel
theorem dX7_world_0 : decode cX7_world 0 = .ok (.iload_n 1, 1) := by decide +kernel
theorem dX7_world_1 : decode cX7_world 1 = .ok (.invokestatic 92, 3) := by decide +kernel
theorem dX7_world_4 : decode cX7_world 4 = .ok (.ifCond .eq 23, 3) := by decide +kernel
theorem dX7_world_7 : decode cX7_world 7 = .ok (.iload_n 2, 1) := by decide +kernel
theorem dX7_world_8 : decode cX7_world 8 = .ok (.iconst 0, 1) := by decide +kernel
theorem dX7_world_9 : decode cX7_world 9 = .ok (.getstatic 95, 3) := by decide +kernel
theorem dX7_world_12 : decode cX7_world 12 = .ok (.arraylength, 1) := by decide +kernel
theorem dX7_world_13 : decode cX7_world 13 = .ok (.iconst 1, 1) := by decide +kernel
theorem dX7_world_14 : decode cX7_world 14 = .ok (.isub, 1) := by decide +kernel
theorem dX7_world_15 : decode cX7_world 15 = .ok (.invokestatic 60, 3) := by decide +kernel
theorem dX7_world_18 : decode cX7_world 18 = .ok (.ifCond .eq 9, 3) := by decide +kernel
theorem dX7_world_21 : decode cX7_world 21 = .ok (.iload_n 3, 1) := by decide +kernel
theorem dX7_world_22 : decode cX7_world 22 = .ok (.bipush 36, 2) := by decide +kernel
theorem dX7_world_24 : decode cX7_world 24 = .ok (.if_icmp .le 7, 3) := by decide +kernel
theorem dX7_world_27 : decode cX7_world 27 = .ok (.ldc2_w 64, 3) := by decide +kernel
theorem dX7_world_30 : decode cX7_world 30 = .ok (.lreturn, 1) := by decide +kernel
theorem dX7_world_31 : decode cX7_world 31 = .ok (.iload_n 3, 1) := by decide +kernel
theorem dX7_world_32 : decode cX7_world 32 = .ok (.ifCond .ge 7, 3) := by decide +kernel
theorem dX7_world_35 : decode cX7_world 35 = .ok (.ldc2_w 98, 3) := by decide +kernel
theorem dX7_world_38 : decode cX7_world 38 = .ok (.lreturn, 1) := by decide +kernel
theorem dX7_world_39 : decode cX7_world 39 = .ok (.aload_n 0, 1) := by decide +kernel
theorem dX7_world_40 : decode cX7_world 40 = .ok (.getfield 18, 3) := by decide +kernel
theorem dX7_world_43 : decode cX7_world 43 = .ok (.iload_n 1, 1) := by decide +kernel
theorem dX7_world_44 : decode cX7_world 44 = .ok (.aaload, 1) := by decide +kernel
theorem dX7_world_45 : decode cX7_world 45 = .ok (.iload_n 2, 1) := by decide +kernel
theorem dX7_world_46 : decode cX7_world 46 = .ok (.iload_n 3, 1) := by decide +kernel
theorem dX7_world_47 : decode cX7_world 47 = .ok (.invokevirtual 100, 3) := by decide +kernel
theorem dX7_world_50 : decode cX7_world 50 = .ok (.iload_n 3, 1) := by decide +kernel
theorem dX7_world_51 : decode cX7_world 51 = .ok (.i2l, 1) := by decide +kernel
theorem dX7_world_52 : decode cX7_world 52 = .ok (.lreturn, 1) := by decide +kernel
theorem dX7_lose_0 : decode cX7_lose 0 = .ok (.iload_n 1, 1) := by decide +kernel
theorem dX7_lose_1 : decode cX7_lose 1 = .ok (.invokestatic 92, 3) := by decide +kernel
theorem dX7_lose_4 : decode cX7_lose 4 = .ok (.ifCond .ne 7, 3) := by decide +kernel
theorem dX7_lose_7 : decode cX7_lose 7 = .ok (.ldc2_w 64, 3) := by decide +kernel
theorem dX7_lose_10 : decode cX7_lose 10 = .ok (.lreturn, 1) := by decide +kernel
theorem dX7_lose_11 : decode cX7_lose 11 = .ok (.aload_n 0, 1) := by decide +kernel
theorem dX7_lose_12 : decode cX7_lose 12 = .ok (.getfield 18, 3) := by decide +kernel
theorem dX7_lose_15 : decode cX7_lose 15 = .ok (.iload_n 1, 1) := by decide +kernel
theorem dX7_lose_16 : decode cX7_lose 16 = .ok (.aaload, 1) := by decide +kernel
theorem dX7_lose_17 : decode cX7_lose 17 = .ok (.astore_n 2, 1) := by decide +kernel
theorem dX7_lose_18 : decode cX7_lose 18 = .ok (.aload_n 2, 1) := by decide +kernel
theorem dX7_lose_19 : decode cX7_lose 19 = .ok (.getfield 104, 3) := by decide +kernel
theorem dX7_lose_22 : decode cX7_lose 22 = .ok (.ifCond .ne 7, 3) := by decide +kernel
theorem dX7_lose_25 : decode cX7_lose 25 = .ok (.ldc2_w 108, 3) := by decide +kernel
theorem dX7_lose_28 : decode cX7_lose 28 = .ok (.lreturn, 1) := by decide +kernel
theorem dX7_lose_29 : decode cX7_lose 29 = .ok (.aload_n 2, 1) := by decide +kernel
theorem dX7_lose_30 : decode cX7_lose 30 = .ok (.iconst 0, 1) := by decide +kernel
theorem dX7_lose_31 : decode cX7_lose 31 = .ok (.putfield 104, 3) := by decide +kernel
theorem dX7_lose_34 : decode cX7_lose 34 = .ok (.aload_n 2, 1) := by decide +kernel
theorem dX7_lose_35 : decode cX7_lose 35 = .ok (.getfield 110, 3) := by decide +kernel
theorem dX7_lose_38 : decode cX7_lose 38 = .ok (.i2l, 1) := by decide +kernel
theorem dX7_lose_39 : decode cX7_lose 39 = .ok (.lreturn, 1) := by decide +kernel
theorem dX7_price_0 : decode cX7_price 0 = .ok (.iload_n 1, 1) := by decide +kernel
theorem dX7_price_1 : decode cX7_price 1 = .ok (.invokestatic 92, 3) := by decide +kernel
theorem dX7_price_4 : decode cX7_price 4 = .ok (.ifCond .ne 7, 3) := by decide +kernel
theorem dX7_price_7 : decode cX7_price 7 = .ok (.ldc2_w 64, 3) := by decide +kernel
theorem dX7_price_10 : decode cX7_price 10 = .ok (.lreturn, 1) := by decide +kernel
theorem dX7_price_11 : decode cX7_price 11 = .ok (.aload_n 0, 1) := by decide +kernel
theorem dX7_price_12 : decode cX7_price 12 = .ok (.getfield 18, 3) := by decide +kernel
theorem dX7_price_15 : decode cX7_price 15 = .ok (.iload_n 1, 1) := by decide +kernel
theorem dX7_price_16 : decode cX7_price 16 = .ok (.aaload, 1) := by decide +kernel
theorem dX7_price_17 : decode cX7_price 17 = .ok (.astore 4, 2) := by decide +kernel
theorem dX7_price_19 : decode cX7_price 19 = .ok (.aload 4, 2) := by decide +kernel
theorem dX7_price_21 : decode cX7_price 21 = .ok (.getfield 104, 3) := by decide +kernel
theorem dX7_price_24 : decode cX7_price 24 = .ok (.ifCond .ne 7, 3) := by decide +kernel
theorem dX7_price_27 : decode cX7_price 27 = .ok (.ldc2_w 108, 3) := by decide +kernel
theorem dX7_price_30 : decode cX7_price 30 = .ok (.lreturn, 1) := by decide +kernel
theorem dX7_price_31 : decode cX7_price 31 = .ok (.iload_n 2, 1) := by decide +kernel
theorem dX7_price_32 : decode cX7_price 32 = .ok (.iconst 0, 1) := by decide +kernel
theorem dX7_price_33 : decode cX7_price 33 = .ok (.aload 4, 2) := by decide +kernel
theorem dX7_price_35 : decode cX7_price 35 = .ok (.getfield 110, 3) := by decide +kernel
theorem dX7_price_38 : decode cX7_price 38 = .ok (.iconst 1, 1) := by decide +kernel
theorem dX7_price_39 : decode cX7_price 39 = .ok (.isub, 1) := by decide +kernel
theorem dX7_price_40 : decode cX7_price 40 = .ok (.invokestatic 60, 3) := by decide +kernel
theorem dX7_price_43 : decode cX7_price 43 = .ok (.ifCond .ne 7, 3) := by decide +kernel
theorem dX7_price_46 : decode cX7_price 46 = .ok (.ldc2_w 113, 3) := by decide +kernel
theorem dX7_price_49 : decode cX7_price 49 = .ok (.lreturn, 1) := by decide +kernel
theorem dX7_price_50 : decode cX7_price 50 = .ok (.aload 4, 2) := by decide +kernel
theorem dX7_price_52 : decode cX7_price 52 = .ok (.iload_n 3, 1) := by decide +kernel
theorem dX7_price_53 : decode cX7_price 53 = .ok (.invokevirtual 115, 3) := by decide +kernel
theorem dX7_price_56 : decode cX7_price 56 = .ok (.ifCond .ne 7, 3) := by decide +kernel
theorem dX7_price_59 : decode cX7_price 59 = .ok (.ldc2_w 64, 3) := by decide +kernel
theorem dX7_price_62 : decode cX7_price 62 = .ok (.lreturn, 1) := by decide +kernel
theorem dX7_price_63 : decode cX7_price 63 = .ok (.aload 4, 2) := by decide +kernel
theorem dX7_price_65 : decode cX7_price 65 = .ok (.getfield 118, 3) := by decide +kernel
theorem dX7_price_68 : decode cX7_price 68 = .ok (.iload_n 2, 1) := by decide +kernel
theorem dX7_price_69 : decode cX7_price 69 = .ok (.iaload, 1) := by decide +kernel
theorem dX7_price_70 : decode cX7_price 70 = .ok (.istore 5, 2) := by decide +kernel
theorem dX7_price_72 : decode cX7_price 72 = .ok (.aload 4, 2) := by decide +kernel
theorem dX7_price_74 : decode cX7_price 74 = .ok (.getfield 118, 3) := by decide +kernel
theorem dX7_price_77 : decode cX7_price 77 = .ok (.iload_n 2, 1) := by decide +kernel
theorem dX7_price_78 : decode cX7_price 78 = .ok (.iload_n 3, 1) := by decide +kernel
theorem dX7_price_79 : decode cX7_price 79 = .ok (.iastore, 1) := by decide +kernel
theorem dX7_price_80 : decode cX7_price 80 = .ok (.iload 5, 2) := by decide +kernel
theorem dX7_price_82 : decode cX7_price 82 = .ok (.i2l, 1) := by decide +kernel
theorem dX7_price_83 : decode cX7_price 83 = .ok (.lreturn, 1) := by decide +kernel
theorem dX7_copy_0 : decode cX7_copy 0 = .ok (.iload_n 1, 1) := by decide +kernel
theorem dX7_copy_1 : decode cX7_copy 1 = .ok (.invokestatic 92, 3) := by decide +kernel
theorem dX7_copy_4 : decode cX7_copy 4 = .ok (.ifCond .eq 10, 3) := by decide +kernel
theorem dX7_copy_7 : decode cX7_copy 7 = .ok (.iload_n 3, 1) := by decide +kernel
theorem dX7_copy_8 : decode cX7_copy 8 = .ok (.invokestatic 92, 3) := by decide +kernel
theorem dX7_copy_11 : decode cX7_copy 11 = .ok (.ifCond .ne 7, 3) := by decide +kernel
theorem dX7_copy_14 : decode cX7_copy 14 = .ok (.ldc2_w 64, 3) := by decide +kernel
theorem dX7_copy_17 : decode cX7_copy 17 = .ok (.lreturn, 1) := by decide +kernel
theorem dX7_copy_18 : decode cX7_copy 18 = .ok (.aload_n 0, 1) := by decide +kernel
theorem dX7_copy_19 : decode cX7_copy 19 = .ok (.getfield 18, 3) := by decide +kernel
theorem dX7_copy_22 : decode cX7_copy 22 = .ok (.iload_n 1, 1) := by decide +kernel
theorem dX7_copy_23 : decode cX7_copy 23 = .ok (.aaload, 1) := by decide +kernel
theorem dX7_copy_24 : decode cX7_copy 24 = .ok (.astore 6, 2) := by decide +kernel
theorem dX7_copy_26 : decode cX7_copy 26 = .ok (.aload_n 0, 1) := by decide +kernel
theorem dX7_copy_27 : decode cX7_copy 27 = .ok (.getfield 18, 3) := by decide +kernel
theorem dX7_copy_30 : decode cX7_copy 30 = .ok (.iload_n 3, 1) := by decide +kernel
theorem dX7_copy_31 : decode cX7_copy 31 = .ok (.aaload, 1) := by decide +kernel
theorem dX7_copy_32 : decode cX7_copy 32 = .ok (.astore 7, 2) := by decide +kernel
theorem dX7_copy_34 : decode cX7_copy 34 = .ok (.aload 6, 2) := by decide +kernel
theorem dX7_copy_36 : decode cX7_copy 36 = .ok (.getfield 104, 3) := by decide +kernel
theorem dX7_copy_39 : decode cX7_copy 39 = .ok (.ifCond .eq 11, 3) := by decide +kernel
theorem dX7_copy_42 : decode cX7_copy 42 = .ok (.aload 7, 2) := by decide +kernel
theorem dX7_copy_44 : decode cX7_copy 44 = .ok (.getfield 104, 3) := by decide +kernel
theorem dX7_copy_47 : decode cX7_copy 47 = .ok (.ifCond .ne 7, 3) := by decide +kernel
theorem dX7_copy_50 : decode cX7_copy 50 = .ok (.ldc2_w 108, 3) := by decide +kernel
theorem dX7_copy_53 : decode cX7_copy 53 = .ok (.lreturn, 1) := by decide +kernel
theorem dX7_copy_54 : decode cX7_copy 54 = .ok (.aload 6, 2) := by decide +kernel
theorem dX7_copy_56 : decode cX7_copy 56 = .ok (.getfield 121, 3) := by decide +kernel
theorem dX7_copy_59 : decode cX7_copy 59 = .ok (.aload 7, 2) := by decide +kernel
theorem dX7_copy_61 : decode cX7_copy 61 = .ok (.getfield 121, 3) := by decide +kernel
theorem dX7_copy_64 : decode cX7_copy 64 = .ok (.if_icmp .eq 7, 3) := by decide +kernel
theorem dX7_copy_67 : decode cX7_copy 67 = .ok (.ldc2_w 124, 3) := by decide +kernel
theorem dX7_copy_70 : decode cX7_copy 70 = .ok (.lreturn, 1) := by decide +kernel
theorem dX7_copy_71 : decode cX7_copy 71 = .ok (.aload 6, 2) := by decide +kernel
theorem dX7_copy_73 : decode cX7_copy 73 = .ok (.iload_n 2, 1) := by decide +kernel
theorem dX7_copy_74 : decode cX7_copy 74 = .ok (.iload 5, 2) := by decide +kernel
theorem dX7_copy_76 : decode cX7_copy 76 = .ok (.invokevirtual 126, 3) := by decide +kernel
theorem dX7_copy_79 : decode cX7_copy 79 = .ok (.ifCond .eq 15, 3) := by decide +kernel
theorem dX7_copy_82 : decode cX7_copy 82 = .ok (.aload 7, 2) := by decide +kernel
theorem dX7_copy_84 : decode cX7_copy 84 = .ok (.iload 4, 2) := by decide +kernel
theorem dX7_copy_86 : decode cX7_copy 86 = .ok (.iload 5, 2) := by decide +kernel
theorem dX7_copy_88 : decode cX7_copy 88 = .ok (.invokevirtual 126, 3) := by decide +kernel
theorem dX7_copy_91 : decode cX7_copy 91 = .ok (.ifCond .ne 7, 3) := by decide +kernel
theorem dX7_copy_94 : decode cX7_copy 94 = .ok (.ldc2_w 113, 3) := by decide +kernel
theorem dX7_copy_97 : decode cX7_copy 97 = .ok (.lreturn, 1) := by decide +kernel
theorem dX7_copy_98 : decode cX7_copy 98 = .ok (.aload 6, 2) := by decide +kernel
theorem dX7_copy_100 : decode cX7_copy 100 = .ok (.getfield 118, 3) := by decide +kernel
theorem dX7_copy_103 : decode cX7_copy 103 = .ok (.iload_n 2, 1) := by decide +kernel
theorem dX7_copy_104 : decode cX7_copy 104 = .ok (.aload 7, 2) := by decide +kernel
theorem dX7_copy_106 : decode cX7_copy 106 = .ok (.getfield 118, 3) := by decide +kernel
theorem dX7_copy_109 : decode cX7_copy 109 = .ok (.iload 4, 2) := by decide +kernel
theorem dX7_copy_111 : decode cX7_copy 111 = .ok (.iload 5, 2) := by decide +kernel
theorem dX7_copy_113 : decode cX7_copy 113 = .ok (.invokestatic 130, 3) := by decide +kernel
theorem dX7_copy_116 : decode cX7_copy 116 = .ok (.iload 5, 2) := by decide +kernel
theorem dX7_copy_118 : decode cX7_copy 118 = .ok (.i2l, 1) := by decide +kernel
theorem dX7_copy_119 : decode cX7_copy 119 = .ok (.lreturn, 1) := by decide +kernel
theorem dX7_told_0 : decode cX7_told 0 = .ok (.iload_n 1, 1) := by decide +kernel
theorem dX7_told_1 : decode cX7_told 1 = .ok (.invokestatic 92, 3) := by decide +kernel
theorem dX7_told_4 : decode cX7_told 4 = .ok (.ifCond .eq 10, 3) := by decide +kernel
theorem dX7_told_7 : decode cX7_told 7 = .ok (.iload_n 2, 1) := by decide +kernel
theorem dX7_told_8 : decode cX7_told 8 = .ok (.invokestatic 76, 3) := by decide +kernel
theorem dX7_told_11 : decode cX7_told 11 = .ok (.ifCond .ne 7, 3) := by decide +kernel
theorem dX7_told_14 : decode cX7_told 14 = .ok (.ldc2_w 64, 3) := by decide +kernel
theorem dX7_told_17 : decode cX7_told 17 = .ok (.lreturn, 1) := by decide +kernel
theorem dX7_told_18 : decode cX7_told 18 = .ok (.aload_n 0, 1) := by decide +kernel
theorem dX7_told_19 : decode cX7_told 19 = .ok (.getfield 18, 3) := by decide +kernel
theorem dX7_told_22 : decode cX7_told 22 = .ok (.iload_n 1, 1) := by decide +kernel
theorem dX7_told_23 : decode cX7_told 23 = .ok (.aaload, 1) := by decide +kernel
theorem dX7_told_24 : decode cX7_told 24 = .ok (.iload_n 2, 1) := by decide +kernel
theorem dX7_told_25 : decode cX7_told 25 = .ok (.invokevirtual 136, 3) := by decide +kernel
theorem dX7_told_28 : decode cX7_told 28 = .ok (.i2l, 1) := by decide +kernel
theorem dX7_told_29 : decode cX7_told 29 = .ok (.lreturn, 1) := by decide +kernel
theorem dX7_store_0 : decode cX7_store 0 = .ok (.iload_n 1, 1) := by decide +kernel
theorem dX7_store_1 : decode cX7_store 1 = .ok (.invokestatic 140, 3) := by decide +kernel
theorem dX7_store_4 : decode cX7_store 4 = .ok (.ifCond .eq 20, 3) := by decide +kernel
theorem dX7_store_7 : decode cX7_store 7 = .ok (.iload_n 2, 1) := by decide +kernel
theorem dX7_store_8 : decode cX7_store 8 = .ok (.invokestatic 143, 3) := by decide +kernel
theorem dX7_store_11 : decode cX7_store 11 = .ok (.ifCond .eq 13, 3) := by decide +kernel
theorem dX7_store_14 : decode cX7_store 14 = .ok (.iload_n 3, 1) := by decide +kernel
theorem dX7_store_15 : decode cX7_store 15 = .ok (.iconst 1, 1) := by decide +kernel
theorem dX7_store_16 : decode cX7_store 16 = .ok (.bipush 60, 2) := by decide +kernel
theorem dX7_store_18 : decode cX7_store 18 = .ok (.invokestatic 60, 3) := by decide +kernel
theorem dX7_store_21 : decode cX7_store 21 = .ok (.ifCond .ne 7, 3) := by decide +kernel
theorem dX7_store_24 : decode cX7_store 24 = .ok (.ldc2_w 64, 3) := by decide +kernel
theorem dX7_store_27 : decode cX7_store 27 = .ok (.lreturn, 1) := by decide +kernel
theorem dX7_store_28 : decode cX7_store 28 = .ok (.iload 4, 2) := by decide +kernel
theorem dX7_store_30 : decode cX7_store 30 = .ok (.invokestatic 146, 3) := by decide +kernel
theorem dX7_store_33 : decode cX7_store 33 = .ok (.ifCond .eq 15, 3) := by decide +kernel
theorem dX7_store_36 : decode cX7_store 36 = .ok (.iload 5, 2) := by decide +kernel
theorem dX7_store_38 : decode cX7_store 38 = .ok (.iconst 0, 1) := by decide +kernel
theorem dX7_store_39 : decode cX7_store 39 = .ok (.sipush 5150, 3) := by decide +kernel
theorem dX7_store_42 : decode cX7_store 42 = .ok (.invokestatic 60, 3) := by decide +kernel
theorem dX7_store_45 : decode cX7_store 45 = .ok (.ifCond .ne 7, 3) := by decide +kernel
theorem dX7_store_48 : decode cX7_store 48 = .ok (.ldc2_w 64, 3) := by decide +kernel
theorem dX7_store_51 : decode cX7_store 51 = .ok (.lreturn, 1) := by decide +kernel
theorem dX7_store_52 : decode cX7_store 52 = .ok (.aload_n 0, 1) := by decide +kernel
theorem dX7_store_53 : decode cX7_store 53 = .ok (.getfield 25, 3) := by decide +kernel
theorem dX7_store_56 : decode cX7_store 56 = .ok (.iload_n 1, 1) := by decide +kernel
theorem dX7_store_57 : decode cX7_store 57 = .ok (.aaload, 1) := by decide +kernel
theorem dX7_store_58 : decode cX7_store 58 = .ok (.astore 6, 2) := by decide +kernel
theorem dX7_store_60 : decode cX7_store 60 = .ok (.aload 6, 2) := by decide +kernel
theorem dX7_store_62 : decode cX7_store 62 = .ok (.iload_n 2, 1) := by decide +kernel
theorem dX7_store_63 : decode cX7_store 63 = .ok (.iload_n 3, 1) := by decide +kernel
theorem dX7_store_64 : decode cX7_store 64 = .ok (.invokevirtual 149, 3) := by decide +kernel
theorem dX7_store_67 : decode cX7_store 67 = .ok (.aload 6, 2) := by decide +kernel
theorem dX7_store_69 : decode cX7_store 69 = .ok (.iload 4, 2) := by decide +kernel
theorem dX7_store_71 : decode cX7_store 71 = .ok (.bipush 21, 2) := by decide +kernel
theorem dX7_store_73 : decode cX7_store 73 = .ok (.idiv, 1) := by decide +kernel
theorem dX7_store_74 : decode cX7_store 74 = .ok (.iload 4, 2) := by decide +kernel
theorem dX7_store_76 : decode cX7_store 76 = .ok (.bipush 21, 2) := by decide +kernel
theorem dX7_store_78 : decode cX7_store 78 = .ok (.irem, 1) := by decide +kernel
theorem dX7_store_79 : decode cX7_store 79 = .ok (.invokevirtual 150, 3) := by decide +kernel
theorem dX7_store_82 : decode cX7_store 82 = .ok (.aload 6, 2) := by decide +kernel
theorem dX7_store_84 : decode cX7_store 84 = .ok (.iload 5, 2) := by decide +kernel
theorem dX7_store_86 : decode cX7_store 86 = .ok (.bipush 101, 2) := by decide +kernel
theorem dX7_store_88 : decode cX7_store 88 = .ok (.idiv, 1) := by decide +kernel
theorem dX7_store_89 : decode cX7_store 89 = .ok (.iload 5, 2) := by decide +kernel
theorem dX7_store_91 : decode cX7_store 91 = .ok (.bipush 101, 2) := by decide +kernel
theorem dX7_store_93 : decode cX7_store 93 = .ok (.irem, 1) := by decide +kernel
theorem dX7_store_94 : decode cX7_store 94 = .ok (.invokevirtual 153, 3) := by decide +kernel
theorem dX7_store_97 : decode cX7_store 97 = .ok (.lconst 0, 1) := by decide +kernel
theorem dX7_store_98 : decode cX7_store 98 = .ok (.lreturn, 1) := by decide +kernel
theorem dX7_charge_0 : decode cX7_charge 0 = .ok (.aload_n 0, 1) := by decide +kernel
theorem dX7_charge_1 : decode cX7_charge 1 = .ok (.iload_n 1, 1) := by decide +kernel
theorem dX7_charge_2 : decode cX7_charge 2 = .ok (.iconst 1, 1) := by decide +kernel
theorem dX7_charge_3 : decode cX7_charge 3 = .ok (.invokevirtual 156, 3) := by decide +kernel
theorem dX7_charge_6 : decode cX7_charge 6 = .ok (.lstore_n 3, 1) := by decide +kernel
theorem dX7_charge_7 : decode cX7_charge 7 = .ok (.lload_n 3, 1) := by decide +kernel
theorem dX7_charge_8 : decode cX7_charge 8 = .ok (.lconst 0, 1) := by decide +kernel
theorem dX7_charge_9 : decode cX7_charge 9 = .ok (.lcmp, 1) := by decide +kernel
theorem dX7_charge_10 : decode cX7_charge 10 = .ok (.ifCond .eq 5, 3) := by decide +kernel
theorem dX7_charge_13 : decode cX7_charge 13 = .ok (.lload_n 3, 1) := by decide +kernel
theorem dX7_charge_14 : decode cX7_charge 14 = .ok (.lreturn, 1) := by decide +kernel
theorem dX7_charge_15 : decode cX7_charge 15 = .ok (.aload_n 0, 1) := by decide +kernel
theorem dX7_charge_16 : decode cX7_charge 16 = .ok (.getfield 25, 3) := by decide +kernel
theorem dX7_charge_19 : decode cX7_charge 19 = .ok (.iload_n 1, 1) := by decide +kernel
theorem dX7_charge_20 : decode cX7_charge 20 = .ok (.aaload, 1) := by decide +kernel
theorem dX7_charge_21 : decode cX7_charge 21 = .ok (.astore 5, 2) := by decide +kernel
theorem dX7_charge_23 : decode cX7_charge 23 = .ok (.iload_n 2, 1) := by decide +kernel
theorem dX7_charge_24 : decode cX7_charge 24 = .ok (.aload 5, 2) := by decide +kernel
theorem dX7_charge_26 : decode cX7_charge 26 = .ok (.getfield 160, 3) := by decide +kernel
theorem dX7_charge_29 : decode cX7_charge 29 = .ok (.aload 5, 2) := by decide +kernel
theorem dX7_charge_31 : decode cX7_charge 31 = .ok (.getfield 163, 3) := by decide +kernel
theorem dX7_charge_34 : decode cX7_charge 34 = .ok (.invokestatic 60, 3) := by decide +kernel
theorem dX7_charge_37 : decode cX7_charge 37 = .ok (.ifCond .ne 7, 3) := by decide +kernel
theorem dX7_charge_40 : decode cX7_charge 40 = .ok (.ldc2_w 64, 3) := by decide +kernel
theorem dX7_charge_43 : decode cX7_charge 43 = .ok (.lreturn, 1) := by decide +kernel
theorem dX7_charge_44 : decode cX7_charge 44 = .ok (.aload 5, 2) := by decide +kernel
theorem dX7_charge_46 : decode cX7_charge 46 = .ok (.getfield 166, 3) := by decide +kernel
theorem dX7_charge_49 : decode cX7_charge 49 = .ok (.istore 6, 2) := by decide +kernel
theorem dX7_charge_51 : decode cX7_charge 51 = .ok (.aload 5, 2) := by decide +kernel
theorem dX7_charge_53 : decode cX7_charge 53 = .ok (.iload_n 2, 1) := by decide +kernel
theorem dX7_charge_54 : decode cX7_charge 54 = .ok (.putfield 166, 3) := by decide +kernel
theorem dX7_charge_57 : decode cX7_charge 57 = .ok (.iload 6, 2) := by decide +kernel
theorem dX7_charge_59 : decode cX7_charge 59 = .ok (.i2l, 1) := by decide +kernel
theorem dX7_charge_60 : decode cX7_charge 60 = .ok (.lreturn, 1) := by decide +kernel
theorem dX7_end_0 : decode cX7_end 0 = .ok (.aload_n 0, 1) := by decide +kernel
theorem dX7_end_1 : decode cX7_end 1 = .ok (.iload_n 1, 1) := by decide +kernel
theorem dX7_end_2 : decode cX7_end 2 = .ok (.iload_n 2, 1) := by decide +kernel
theorem dX7_end_3 : decode cX7_end 3 = .ok (.iconst 0, 1) := by decide +kernel
theorem dX7_end_4 : decode cX7_end 4 = .ok (.bipush 60, 2) := by decide +kernel
theorem dX7_end_6 : decode cX7_end 6 = .ok (.invokestatic 60, 3) := by decide +kernel
theorem dX7_end_9 : decode cX7_end 9 = .ok (.invokevirtual 156, 3) := by decide +kernel
theorem dX7_end_12 : decode cX7_end 12 = .ok (.lstore_n 3, 1) := by decide +kernel
theorem dX7_end_13 : decode cX7_end 13 = .ok (.lload_n 3, 1) := by decide +kernel
theorem dX7_end_14 : decode cX7_end 14 = .ok (.lconst 0, 1) := by decide +kernel
theorem dX7_end_15 : decode cX7_end 15 = .ok (.lcmp, 1) := by decide +kernel
theorem dX7_end_16 : decode cX7_end 16 = .ok (.ifCond .eq 5, 3) := by decide +kernel
theorem dX7_end_19 : decode cX7_end 19 = .ok (.lload_n 3, 1) := by decide +kernel
theorem dX7_end_20 : decode cX7_end 20 = .ok (.lreturn, 1) := by decide +kernel
theorem dX7_end_21 : decode cX7_end 21 = .ok (.aload_n 0, 1) := by decide +kernel
theorem dX7_end_22 : decode cX7_end 22 = .ok (.getfield 25, 3) := by decide +kernel
theorem dX7_end_25 : decode cX7_end 25 = .ok (.iload_n 1, 1) := by decide +kernel
theorem dX7_end_26 : decode cX7_end 26 = .ok (.aaload, 1) := by decide +kernel
theorem dX7_end_27 : decode cX7_end 27 = .ok (.getfield 169, 3) := by decide +kernel
theorem dX7_end_30 : decode cX7_end 30 = .ok (.istore 5, 2) := by decide +kernel
theorem dX7_end_32 : decode cX7_end 32 = .ok (.aload_n 0, 1) := by decide +kernel
theorem dX7_end_33 : decode cX7_end 33 = .ok (.getfield 25, 3) := by decide +kernel
theorem dX7_end_36 : decode cX7_end 36 = .ok (.iload_n 1, 1) := by decide +kernel
theorem dX7_end_37 : decode cX7_end 37 = .ok (.aaload, 1) := by decide +kernel
theorem dX7_end_38 : decode cX7_end 38 = .ok (.iload_n 2, 1) := by decide +kernel
theorem dX7_end_39 : decode cX7_end 39 = .ok (.putfield 169, 3) := by decide +kernel
theorem dX7_end_42 : decode cX7_end 42 = .ok (.iload 5, 2) := by decide +kernel
theorem dX7_end_44 : decode cX7_end 44 = .ok (.i2l, 1) := by decide +kernel
theorem dX7_end_45 : decode cX7_end 45 = .ok (.lreturn, 1) := by decide +kernel
theorem dX7_about_0 : decode cX7_about 0 = .ok (.aload_n 0, 1) := by decide +kernel
theorem dX7_about_1 : decode cX7_about 1 = .ok (.iload_n 1, 1) := by decide +kernel
theorem dX7_about_2 : decode cX7_about 2 = .ok (.iload_n 2, 1) := by decide +kernel
theorem dX7_about_3 : decode cX7_about 3 = .ok (.iconst 0, 1) := by decide +kernel
theorem dX7_about_4 : decode cX7_about 4 = .ok (.bipush 10, 2) := by decide +kernel
theorem dX7_about_6 : decode cX7_about 6 = .ok (.invokestatic 60, 3) := by decide +kernel
theorem dX7_about_9 : decode cX7_about 9 = .ok (.invokevirtual 156, 3) := by decide +kernel
theorem dX7_about_12 : decode cX7_about 12 = .ok (.lstore_n 3, 1) := by decide +kernel
theorem dX7_about_13 : decode cX7_about 13 = .ok (.lload_n 3, 1) := by decide +kernel
theorem dX7_about_14 : decode cX7_about 14 = .ok (.lconst 0, 1) := by decide +kernel
theorem dX7_about_15 : decode cX7_about 15 = .ok (.lcmp, 1) := by decide +kernel
theorem dX7_about_16 : decode cX7_about 16 = .ok (.ifCond .eq 5, 3) := by decide +kernel
theorem dX7_about_19 : decode cX7_about 19 = .ok (.lload_n 3, 1) := by decide +kernel
theorem dX7_about_20 : decode cX7_about 20 = .ok (.lreturn, 1) := by decide +kernel
theorem dX7_about_21 : decode cX7_about 21 = .ok (.aload_n 0, 1) := by decide +kernel
theorem dX7_about_22 : decode cX7_about 22 = .ok (.getfield 25, 3) := by decide +kernel
theorem dX7_about_25 : decode cX7_about 25 = .ok (.iload_n 1, 1) := by decide +kernel
theorem dX7_about_26 : decode cX7_about 26 = .ok (.aaload, 1) := by decide +kernel
theorem dX7_about_27 : decode cX7_about 27 = .ok (.iload_n 2, 1) := by decide +kernel
theorem dX7_about_28 : decode cX7_about 28 = .ok (.invokevirtual 172, 3) := by decide +kernel
theorem dX7_about_31 : decode cX7_about 31 = .ok (.i2l, 1) := by decide +kernel
theorem dX7_about_32 : decode cX7_about 32 = .ok (.lreturn, 1) := by decide +kernel
theorem dX7_isOf_0 : decode cX7_isOf 0 = .ok (.aload_n 0, 1) := by decide +kernel
theorem dX7_isOf_1 : decode cX7_isOf 1 = .ok (.iload_n 1, 1) := by decide +kernel
theorem dX7_isOf_2 : decode cX7_isOf 2 = .ok (.iload_n 2, 1) := by decide +kernel
theorem dX7_isOf_3 : decode cX7_isOf 3 = .ok (.invokestatic 143, 3) := by decide +kernel
theorem dX7_isOf_6 : decode cX7_isOf 6 = .ok (.invokevirtual 156, 3) := by decide +kernel
theorem dX7_isOf_9 : decode cX7_isOf 9 = .ok (.lstore_n 3, 1) := by decide +kernel
theorem dX7_isOf_10 : decode cX7_isOf 10 = .ok (.lload_n 3, 1) := by decide +kernel
theorem dX7_isOf_11 : decode cX7_isOf 11 = .ok (.lconst 0, 1) := by decide +kernel
theorem dX7_isOf_12 : decode cX7_isOf 12 = .ok (.lcmp, 1) := by decide +kernel
theorem dX7_isOf_13 : decode cX7_isOf 13 = .ok (.ifCond .eq 5, 3) := by decide +kernel
theorem dX7_isOf_16 : decode cX7_isOf 16 = .ok (.lload_n 3, 1) := by decide +kernel
theorem dX7_isOf_17 : decode cX7_isOf 17 = .ok (.lreturn, 1) := by decide +kernel
theorem dX7_isOf_18 : decode cX7_isOf 18 = .ok (.aload_n 0, 1) := by decide +kernel
theorem dX7_isOf_19 : decode cX7_isOf 19 = .ok (.getfield 25, 3) := by decide +kernel
theorem dX7_isOf_22 : decode cX7_isOf 22 = .ok (.iload_n 1, 1) := by decide +kernel
theorem dX7_isOf_23 : decode cX7_isOf 23 = .ok (.aaload, 1) := by decide +kernel
theorem dX7_isOf_24 : decode cX7_isOf 24 = .ok (.iload_n 2, 1) := by decide +kernel
theorem dX7_isOf_25 : decode cX7_isOf 25 = .ok (.invokevirtual 175, 3) := by decide +kernel
theorem dX7_isOf_28 : decode cX7_isOf 28 = .ok (.invokestatic 84, 3) := by decide +kernel
theorem dX7_isOf_31 : decode cX7_isOf 31 = .ok (.lreturn, 1) := by decide +kernel
theorem dX7_put_0 : decode cX7_put 0 = .ok (.aload_n 0, 1) := by decide +kernel
theorem dX7_put_1 : decode cX7_put 1 = .ok (.iload_n 1, 1) := by decide +kernel
theorem dX7_put_2 : decode cX7_put 2 = .ok (.iconst 1, 1) := by decide +kernel
theorem dX7_put_3 : decode cX7_put 3 = .ok (.invokevirtual 156, 3) := by decide +kernel
theorem dX7_put_6 : decode cX7_put 6 = .ok (.lstore 4, 2) := by decide +kernel
theorem dX7_put_8 : decode cX7_put 8 = .ok (.lload 4, 2) := by decide +kernel
theorem dX7_put_10 : decode cX7_put 10 = .ok (.lconst 0, 1) := by decide +kernel
theorem dX7_put_11 : decode cX7_put 11 = .ok (.lcmp, 1) := by decide +kernel
theorem dX7_put_12 : decode cX7_put 12 = .ok (.ifCond .eq 6, 3) := by decide +kernel
theorem dX7_put_15 : decode cX7_put 15 = .ok (.lload 4, 2) := by decide +kernel
theorem dX7_put_17 : decode cX7_put 17 = .ok (.lreturn, 1) := by decide +kernel
theorem dX7_put_18 : decode cX7_put 18 = .ok (.aload_n 0, 1) := by decide +kernel
theorem dX7_put_19 : decode cX7_put 19 = .ok (.iload_n 2, 1) := by decide +kernel
theorem dX7_put_20 : decode cX7_put 20 = .ok (.invokevirtual 178, 3) := by decide +kernel
theorem dX7_put_23 : decode cX7_put 23 = .ok (.ifCond .ne 7, 3) := by decide +kernel
theorem dX7_put_26 : decode cX7_put 26 = .ok (.ldc2_w 113, 3) := by decide +kernel
theorem dX7_put_29 : decode cX7_put 29 = .ok (.lreturn, 1) := by decide +kernel
theorem dX7_put_30 : decode cX7_put 30 = .ok (.iload_n 3, 1) := by decide +kernel
theorem dX7_put_31 : decode cX7_put 31 = .ok (.bipush (-100), 2) := by decide +kernel
theorem dX7_put_33 : decode cX7_put 33 = .ok (.bipush 100, 2) := by decide +kernel
theorem dX7_put_35 : decode cX7_put 35 = .ok (.invokestatic 60, 3) := by decide +kernel
theorem dX7_put_38 : decode cX7_put 38 = .ok (.ifCond .ne 7, 3) := by decide +kernel
theorem dX7_put_41 : decode cX7_put 41 = .ok (.ldc2_w 64, 3) := by decide +kernel
theorem dX7_put_44 : decode cX7_put 44 = .ok (.lreturn, 1) := by decide +kernel
theorem dX7_put_45 : decode cX7_put 45 = .ok (.aload_n 0, 1) := by decide +kernel
theorem dX7_put_46 : decode cX7_put 46 = .ok (.getfield 25, 3) := by decide +kernel
theorem dX7_put_49 : decode cX7_put 49 = .ok (.iload_n 1, 1) := by decide +kernel
theorem dX7_put_50 : decode cX7_put 50 = .ok (.aaload, 1) := by decide +kernel
theorem dX7_put_51 : decode cX7_put 51 = .ok (.getfield 181, 3) := by decide +kernel
theorem dX7_put_54 : decode cX7_put 54 = .ok (.iload_n 2, 1) := by decide +kernel
theorem dX7_put_55 : decode cX7_put 55 = .ok (.iaload, 1) := by decide +kernel
theorem dX7_put_56 : decode cX7_put 56 = .ok (.istore 6, 2) := by decide +kernel
theorem dX7_put_58 : decode cX7_put 58 = .ok (.aload_n 0, 1) := by decide +kernel
theorem dX7_put_59 : decode cX7_put 59 = .ok (.getfield 25, 3) := by decide +kernel
theorem dX7_put_62 : decode cX7_put 62 = .ok (.iload_n 1, 1) := by decide +kernel
theorem dX7_put_63 : decode cX7_put 63 = .ok (.aaload, 1) := by decide +kernel
theorem dX7_put_64 : decode cX7_put 64 = .ok (.getfield 181, 3) := by decide +kernel
theorem dX7_put_67 : decode cX7_put 67 = .ok (.iload_n 2, 1) := by decide +kernel
theorem dX7_put_68 : decode cX7_put 68 = .ok (.iload_n 3, 1) := by decide +kernel
theorem dX7_put_69 : decode cX7_put 69 = .ok (.iastore, 1) := by decide +kernel
theorem dX7_put_70 : decode cX7_put 70 = .ok (.iload 6, 2) := by decide +kernel
theorem dX7_put_72 : decode cX7_put 72 = .ok (.i2l, 1) := by decide +kernel
theorem dX7_put_73 : decode cX7_put 73 = .ok (.lreturn, 1) := by decide +kernel
theorem dX7_planned_0 : decode cX7_planned 0 = .ok (.aload_n 0, 1) := by decide +kernel
theorem dX7_planned_1 : decode cX7_planned 1 = .ok (.iload_n 1, 1) := by decide +kernel
theorem dX7_planned_2 : decode cX7_planned 2 = .ok (.iconst 1, 1) := by decide +kernel
theorem dX7_planned_3 : decode cX7_planned 3 = .ok (.invokevirtual 156, 3) := by decide +kernel
theorem dX7_planned_6 : decode cX7_planned 6 = .ok (.lstore_n 3, 1) := by decide +kernel
theorem dX7_planned_7 : decode cX7_planned 7 = .ok (.lload_n 3, 1) := by decide +kernel
theorem dX7_planned_8 : decode cX7_planned 8 = .ok (.lconst 0, 1) := by decide +kernel
theorem dX7_planned_9 : decode cX7_planned 9 = .ok (.lcmp, 1) := by decide +kernel
theorem dX7_planned_10 : decode cX7_planned 10 = .ok (.ifCond .eq 5, 3) := by decide +kernel
theorem dX7_planned_13 : decode cX7_planned 13 = .ok (.lload_n 3, 1) := by decide +kernel
theorem dX7_planned_14 : decode cX7_planned 14 = .ok (.lreturn, 1) := by decide +kernel
theorem dX7_planned_15 : decode cX7_planned 15 = .ok (.aload_n 0, 1) := by decide +kernel
theorem dX7_planned_16 : decode cX7_planned 16 = .ok (.iload_n 2, 1) := by decide +kernel
theorem dX7_planned_17 : decode cX7_planned 17 = .ok (.invokevirtual 178, 3) := by decide +kernel
theorem dX7_planned_20 : decode cX7_planned 20 = .ok (.ifCond .ne 7, 3) := by decide +kernel
theorem dX7_planned_23 : decode cX7_planned 23 = .ok (.ldc2_w 113, 3) := by decide +kernel
theorem dX7_planned_26 : decode cX7_planned 26 = .ok (.lreturn, 1) := by decide +kernel
theorem dX7_planned_27 : decode cX7_planned 27 = .ok (.aload_n 0, 1) := by decide +kernel
theorem dX7_planned_28 : decode cX7_planned 28 = .ok (.getfield 25, 3) := by decide +kernel
theorem dX7_planned_31 : decode cX7_planned 31 = .ok (.iload_n 1, 1) := by decide +kernel
theorem dX7_planned_32 : decode cX7_planned 32 = .ok (.aaload, 1) := by decide +kernel
theorem dX7_planned_33 : decode cX7_planned 33 = .ok (.getfield 181, 3) := by decide +kernel
theorem dX7_planned_36 : decode cX7_planned 36 = .ok (.iload_n 2, 1) := by decide +kernel
theorem dX7_planned_37 : decode cX7_planned 37 = .ok (.iaload, 1) := by decide +kernel
theorem dX7_planned_38 : decode cX7_planned 38 = .ok (.i2l, 1) := by decide +kernel
theorem dX7_planned_39 : decode cX7_planned 39 = .ok (.lreturn, 1) := by decide +kernel
theorem dX7_behind_0 : decode cX7_behind 0 = .ok (.aload_n 0, 1) := by decide +kernel
theorem dX7_behind_1 : decode cX7_behind 1 = .ok (.iload_n 1, 1) := by decide +kernel
theorem dX7_behind_2 : decode cX7_behind 2 = .ok (.iconst 1, 1) := by decide +kernel
theorem dX7_behind_3 : decode cX7_behind 3 = .ok (.invokevirtual 156, 3) := by decide +kernel
theorem dX7_behind_6 : decode cX7_behind 6 = .ok (.lstore_n 3, 1) := by decide +kernel
theorem dX7_behind_7 : decode cX7_behind 7 = .ok (.lload_n 3, 1) := by decide +kernel
theorem dX7_behind_8 : decode cX7_behind 8 = .ok (.lconst 0, 1) := by decide +kernel
theorem dX7_behind_9 : decode cX7_behind 9 = .ok (.lcmp, 1) := by decide +kernel
theorem dX7_behind_10 : decode cX7_behind 10 = .ok (.ifCond .eq 5, 3) := by decide +kernel
theorem dX7_behind_13 : decode cX7_behind 13 = .ok (.lload_n 3, 1) := by decide +kernel
theorem dX7_behind_14 : decode cX7_behind 14 = .ok (.lreturn, 1) := by decide +kernel
theorem dX7_behind_15 : decode cX7_behind 15 = .ok (.iload_n 2, 1) := by decide +kernel
theorem dX7_behind_16 : decode cX7_behind 16 = .ok (.iconst (-1), 1) := by decide +kernel
theorem dX7_behind_17 : decode cX7_behind 17 = .ok (.if_icmp .eq 15, 3) := by decide +kernel
theorem dX7_behind_20 : decode cX7_behind 20 = .ok (.aload_n 0, 1) := by decide +kernel
theorem dX7_behind_21 : decode cX7_behind 21 = .ok (.iload_n 2, 1) := by decide +kernel
theorem dX7_behind_22 : decode cX7_behind 22 = .ok (.invokevirtual 178, 3) := by decide +kernel
theorem dX7_behind_25 : decode cX7_behind 25 = .ok (.ifCond .ne 7, 3) := by decide +kernel
theorem dX7_behind_28 : decode cX7_behind 28 = .ok (.ldc2_w 113, 3) := by decide +kernel
theorem dX7_behind_31 : decode cX7_behind 31 = .ok (.lreturn, 1) := by decide +kernel
theorem dX7_behind_32 : decode cX7_behind 32 = .ok (.aload_n 0, 1) := by decide +kernel
theorem dX7_behind_33 : decode cX7_behind 33 = .ok (.getfield 25, 3) := by decide +kernel
theorem dX7_behind_36 : decode cX7_behind 36 = .ok (.iload_n 1, 1) := by decide +kernel
theorem dX7_behind_37 : decode cX7_behind 37 = .ok (.aaload, 1) := by decide +kernel
theorem dX7_behind_38 : decode cX7_behind 38 = .ok (.iload_n 2, 1) := by decide +kernel
theorem dX7_behind_39 : decode cX7_behind 39 = .ok (.invokevirtual 184, 3) := by decide +kernel
theorem dX7_behind_42 : decode cX7_behind 42 = .ok (.i2l, 1) := by decide +kernel
theorem dX7_behind_43 : decode cX7_behind 43 = .ok (.lreturn, 1) := by decide +kernel
theorem dX7_why_0 : decode cX7_why 0 = .ok (.aload_n 0, 1) := by decide +kernel
theorem dX7_why_1 : decode cX7_why 1 = .ok (.iload_n 1, 1) := by decide +kernel
theorem dX7_why_2 : decode cX7_why 2 = .ok (.iconst 1, 1) := by decide +kernel
theorem dX7_why_3 : decode cX7_why 3 = .ok (.invokevirtual 156, 3) := by decide +kernel
theorem dX7_why_6 : decode cX7_why 6 = .ok (.lstore_n 2, 1) := by decide +kernel
theorem dX7_why_7 : decode cX7_why 7 = .ok (.lload_n 2, 1) := by decide +kernel
theorem dX7_why_8 : decode cX7_why 8 = .ok (.lconst 0, 1) := by decide +kernel
theorem dX7_why_9 : decode cX7_why 9 = .ok (.lcmp, 1) := by decide +kernel
theorem dX7_why_10 : decode cX7_why 10 = .ok (.ifCond .eq 5, 3) := by decide +kernel
theorem dX7_why_13 : decode cX7_why 13 = .ok (.lload_n 2, 1) := by decide +kernel
theorem dX7_why_14 : decode cX7_why 14 = .ok (.lreturn, 1) := by decide +kernel
theorem dX7_why_15 : decode cX7_why 15 = .ok (.aload_n 0, 1) := by decide +kernel
theorem dX7_why_16 : decode cX7_why 16 = .ok (.getfield 12, 3) := by decide +kernel
theorem dX7_why_19 : decode cX7_why 19 = .ok (.aload_n 0, 1) := by decide +kernel
theorem dX7_why_20 : decode cX7_why 20 = .ok (.getfield 25, 3) := by decide +kernel
theorem dX7_why_23 : decode cX7_why 23 = .ok (.iload_n 1, 1) := by decide +kernel
theorem dX7_why_24 : decode cX7_why 24 = .ok (.aaload, 1) := by decide +kernel
theorem dX7_why_25 : decode cX7_why 25 = .ok (.invokevirtual 187, 3) := by decide +kernel
theorem dX7_why_28 : decode cX7_why 28 = .ok (.lreturn, 1) := by decide +kernel
theorem dX7_money_0 : decode cX7_money 0 = .ok (.aload_n 0, 1) := by decide +kernel
theorem dX7_money_1 : decode cX7_money 1 = .ok (.iload_n 1, 1) := by decide +kernel
theorem dX7_money_2 : decode cX7_money 2 = .ok (.iload_n 2, 1) := by decide +kernel
theorem dX7_money_3 : decode cX7_money 3 = .ok (.invokestatic 92, 3) := by decide +kernel
theorem dX7_money_6 : decode cX7_money 6 = .ok (.invokevirtual 156, 3) := by decide +kernel
theorem dX7_money_9 : decode cX7_money 9 = .ok (.lstore_n 3, 1) := by decide +kernel
theorem dX7_money_10 : decode cX7_money 10 = .ok (.lload_n 3, 1) := by decide +kernel
theorem dX7_money_11 : decode cX7_money 11 = .ok (.lconst 0, 1) := by decide +kernel
theorem dX7_money_12 : decode cX7_money 12 = .ok (.lcmp, 1) := by decide +kernel
theorem dX7_money_13 : decode cX7_money 13 = .ok (.ifCond .eq 5, 3) := by decide +kernel
theorem dX7_money_16 : decode cX7_money 16 = .ok (.lload_n 3, 1) := by decide +kernel
theorem dX7_money_17 : decode cX7_money 17 = .ok (.lreturn, 1) := by decide +kernel
theorem dX7_money_18 : decode cX7_money 18 = .ok (.aload_n 0, 1) := by decide +kernel
theorem dX7_money_19 : decode cX7_money 19 = .ok (.getfield 25, 3) := by decide +kernel
theorem dX7_money_22 : decode cX7_money 22 = .ok (.iload_n 1, 1) := by decide +kernel
theorem dX7_money_23 : decode cX7_money 23 = .ok (.aaload, 1) := by decide +kernel
theorem dX7_money_24 : decode cX7_money 24 = .ok (.aload_n 0, 1) := by decide +kernel
theorem dX7_money_25 : decode cX7_money 25 = .ok (.getfield 18, 3) := by decide +kernel
theorem dX7_money_28 : decode cX7_money 28 = .ok (.iload_n 2, 1) := by decide +kernel
theorem dX7_money_29 : decode cX7_money 29 = .ok (.aaload, 1) := by decide +kernel
theorem dX7_money_30 : decode cX7_money 30 = .ok (.aload_n 0, 1) := by decide +kernel
theorem dX7_money_31 : decode cX7_money 31 = .ok (.getfield 12, 3) := by decide +kernel
theorem dX7_money_34 : decode cX7_money 34 = .ok (.getfield 70, 3) := by decide +kernel
theorem dX7_money_37 : decode cX7_money 37 = .ok (.invokevirtual 191, 3) := by decide +kernel
theorem dX7_money_40 : decode cX7_money 40 = .ok (.lreturn, 1) := by decide +kernel
theorem dX7_worst_0 : decode cX7_worst 0 = .ok (.aload_n 0, 1) := by decide +kernel
theorem dX7_worst_1 : decode cX7_worst 1 = .ok (.iload_n 1, 1) := by decide +kernel
theorem dX7_worst_2 : decode cX7_worst 2 = .ok (.iload_n 2, 1) := by decide +kernel
theorem dX7_worst_3 : decode cX7_worst 3 = .ok (.invokestatic 195, 3) := by decide +kernel
theorem dX7_worst_6 : decode cX7_worst 6 = .ok (.invokevirtual 156, 3) := by decide +kernel
theorem dX7_worst_9 : decode cX7_worst 9 = .ok (.lstore_n 3, 1) := by decide +kernel
theorem dX7_worst_10 : decode cX7_worst 10 = .ok (.lload_n 3, 1) := by decide +kernel
theorem dX7_worst_11 : decode cX7_worst 11 = .ok (.lconst 0, 1) := by decide +kernel
theorem dX7_worst_12 : decode cX7_worst 12 = .ok (.lcmp, 1) := by decide +kernel
theorem dX7_worst_13 : decode cX7_worst 13 = .ok (.ifCond .eq 5, 3) := by decide +kernel
theorem dX7_worst_16 : decode cX7_worst 16 = .ok (.lload_n 3, 1) := by decide +kernel
theorem dX7_worst_17 : decode cX7_worst 17 = .ok (.lreturn, 1) := by decide +kernel
theorem dX7_worst_18 : decode cX7_worst 18 = .ok (.ldc2_w 200, 3) := by decide +kernel
theorem dX7_worst_21 : decode cX7_worst 21 = .ok (.lstore 5, 2) := by decide +kernel
theorem dX7_worst_23 : decode cX7_worst 23 = .ok (.iconst 0, 1) := by decide +kernel
theorem dX7_worst_24 : decode cX7_worst 24 = .ok (.istore 7, 2) := by decide +kernel
theorem dX7_worst_26 : decode cX7_worst 26 = .ok (.iload 7, 2) := by decide +kernel
theorem dX7_worst_28 : decode cX7_worst 28 = .ok (.iconst 4, 1) := by decide +kernel
theorem dX7_worst_29 : decode cX7_worst 29 = .ok (.if_icmp .ge 48, 3) := by decide +kernel
theorem dX7_worst_32 : decode cX7_worst 32 = .ok (.iload_n 2, 1) := by decide +kernel
theorem dX7_worst_33 : decode cX7_worst 33 = .ok (.iload 7, 2) := by decide +kernel
theorem dX7_worst_35 : decode cX7_worst 35 = .ok (.invokestatic 202, 3) := by decide +kernel
theorem dX7_worst_38 : decode cX7_worst 38 = .ok (.ifCond .eq 33, 3) := by decide +kernel
theorem dX7_worst_41 : decode cX7_worst 41 = .ok (.lload 5, 2) := by decide +kernel
theorem dX7_worst_43 : decode cX7_worst 43 = .ok (.aload_n 0, 1) := by decide +kernel
theorem dX7_worst_44 : decode cX7_worst 44 = .ok (.getfield 25, 3) := by decide +kernel
theorem dX7_worst_47 : decode cX7_worst 47 = .ok (.iload_n 1, 1) := by decide +kernel
theorem dX7_worst_48 : decode cX7_worst 48 = .ok (.aaload, 1) := by decide +kernel
theorem dX7_worst_49 : decode cX7_worst 49 = .ok (.aload_n 0, 1) := by decide +kernel
theorem dX7_worst_50 : decode cX7_worst 50 = .ok (.getfield 18, 3) := by decide +kernel
theorem dX7_worst_53 : decode cX7_worst 53 = .ok (.iload 7, 2) := by decide +kernel
theorem dX7_worst_55 : decode cX7_worst 55 = .ok (.aaload, 1) := by decide +kernel
theorem dX7_worst_56 : decode cX7_worst 56 = .ok (.aload_n 0, 1) := by decide +kernel
theorem dX7_worst_57 : decode cX7_worst 57 = .ok (.getfield 12, 3) := by decide +kernel
theorem dX7_worst_60 : decode cX7_worst 60 = .ok (.getfield 70, 3) := by decide +kernel
theorem dX7_worst_63 : decode cX7_worst 63 = .ok (.invokevirtual 191, 3) := by decide +kernel
theorem dX7_worst_66 : decode cX7_worst 66 = .ok (.invokestatic 205, 3) := by decide +kernel
theorem dX7_worst_69 : decode cX7_worst 69 = .ok (.lstore 5, 2) := by decide +kernel
theorem dX7_worst_71 : decode cX7_worst 71 = .ok (.iinc 7 1, 3) := by decide +kernel
theorem dX7_worst_74 : decode cX7_worst 74 = .ok (.goto (-48), 3) := by decide +kernel
theorem dX7_worst_77 : decode cX7_worst 77 = .ok (.lload 5, 2) := by decide +kernel
theorem dX7_worst_79 : decode cX7_worst 79 = .ok (.lreturn, 1) := by decide +kernel
theorem dX7_best_0 : decode cX7_best 0 = .ok (.aload_n 0, 1) := by decide +kernel
theorem dX7_best_1 : decode cX7_best 1 = .ok (.iload_n 1, 1) := by decide +kernel
theorem dX7_best_2 : decode cX7_best 2 = .ok (.iload_n 2, 1) := by decide +kernel
theorem dX7_best_3 : decode cX7_best 3 = .ok (.invokestatic 195, 3) := by decide +kernel
theorem dX7_best_6 : decode cX7_best 6 = .ok (.invokevirtual 156, 3) := by decide +kernel
theorem dX7_best_9 : decode cX7_best 9 = .ok (.lstore_n 3, 1) := by decide +kernel
theorem dX7_best_10 : decode cX7_best 10 = .ok (.lload_n 3, 1) := by decide +kernel
theorem dX7_best_11 : decode cX7_best 11 = .ok (.lconst 0, 1) := by decide +kernel
theorem dX7_best_12 : decode cX7_best 12 = .ok (.lcmp, 1) := by decide +kernel
theorem dX7_best_13 : decode cX7_best 13 = .ok (.ifCond .eq 5, 3) := by decide +kernel
theorem dX7_best_16 : decode cX7_best 16 = .ok (.lload_n 3, 1) := by decide +kernel
theorem dX7_best_17 : decode cX7_best 17 = .ok (.lreturn, 1) := by decide +kernel
theorem dX7_best_18 : decode cX7_best 18 = .ok (.aload_n 0, 1) := by decide +kernel
theorem dX7_best_19 : decode cX7_best 19 = .ok (.getfield 25, 3) := by decide +kernel
theorem dX7_best_22 : decode cX7_best 22 = .ok (.iload_n 1, 1) := by decide +kernel
theorem dX7_best_23 : decode cX7_best 23 = .ok (.aaload, 1) := by decide +kernel
theorem dX7_best_24 : decode cX7_best 24 = .ok (.astore 5, 2) := by decide +kernel
theorem dX7_best_26 : decode cX7_best 26 = .ok (.aload_n 0, 1) := by decide +kernel
theorem dX7_best_27 : decode cX7_best 27 = .ok (.getfield 35, 3) := by decide +kernel
theorem dX7_best_30 : decode cX7_best 30 = .ok (.aload 5, 2) := by decide +kernel
theorem dX7_best_32 : decode cX7_best 32 = .ok (.iload_n 2, 1) := by decide +kernel
theorem dX7_best_33 : decode cX7_best 33 = .ok (.iconst 0, 1) := by decide +kernel
theorem dX7_best_34 : decode cX7_best 34 = .ok (.invokevirtual 211, 3) := by decide +kernel
theorem dX7_best_37 : decode cX7_best 37 = .ok (.aload_n 0, 1) := by decide +kernel
theorem dX7_best_38 : decode cX7_best 38 = .ok (.getfield 35, 3) := by decide +kernel
theorem dX7_best_41 : decode cX7_best 41 = .ok (.iconst 0, 1) := by decide +kernel
theorem dX7_best_42 : decode cX7_best 42 = .ok (.aload 5, 2) := by decide +kernel
theorem dX7_best_44 : decode cX7_best 44 = .ok (.getfield 166, 3) := by decide +kernel
theorem dX7_best_47 : decode cX7_best 47 = .ok (.invokevirtual 215, 3) := by decide +kernel
theorem dX7_best_50 : decode cX7_best 50 = .ok (.lstore 6, 2) := by decide +kernel
theorem dX7_best_52 : decode cX7_best 52 = .ok (.lload 6, 2) := by decide +kernel
theorem dX7_best_54 : decode cX7_best 54 = .ok (.ldc2_w 219, 3) := by decide +kernel
theorem dX7_best_57 : decode cX7_best 57 = .ok (.lcmp, 1) := by decide +kernel
theorem dX7_best_58 : decode cX7_best 58 = .ok (.ifCond .eq 13, 3) := by decide +kernel
theorem dX7_best_61 : decode cX7_best 61 = .ok (.aload_n 0, 1) := by decide +kernel
theorem dX7_best_62 : decode cX7_best 62 = .ok (.getfield 35, 3) := by decide +kernel
theorem dX7_best_65 : decode cX7_best 65 = .ok (.aload 5, 2) := by decide +kernel
theorem dX7_best_67 : decode cX7_best 67 = .ok (.iload_n 2, 1) := by decide +kernel
theorem dX7_best_68 : decode cX7_best 68 = .ok (.invokevirtual 221, 3) := by decide +kernel
theorem dX7_best_71 : decode cX7_best 71 = .ok (.lload 6, 2) := by decide +kernel
theorem dX7_best_73 : decode cX7_best 73 = .ok (.lreturn, 1) := by decide +kernel
theorem dX7_many_0 : decode cX7_many 0 = .ok (.aload_n 0, 1) := by decide +kernel
theorem dX7_many_1 : decode cX7_many 1 = .ok (.iload_n 1, 1) := by decide +kernel
theorem dX7_many_2 : decode cX7_many 2 = .ok (.iload_n 2, 1) := by decide +kernel
theorem dX7_many_3 : decode cX7_many 3 = .ok (.invokestatic 195, 3) := by decide +kernel
theorem dX7_many_6 : decode cX7_many 6 = .ok (.invokevirtual 156, 3) := by decide +kernel
theorem dX7_many_9 : decode cX7_many 9 = .ok (.lstore_n 3, 1) := by decide +kernel
theorem dX7_many_10 : decode cX7_many 10 = .ok (.lload_n 3, 1) := by decide +kernel
theorem dX7_many_11 : decode cX7_many 11 = .ok (.lconst 0, 1) := by decide +kernel
theorem dX7_many_12 : decode cX7_many 12 = .ok (.lcmp, 1) := by decide +kernel
theorem dX7_many_13 : decode cX7_many 13 = .ok (.ifCond .eq 5, 3) := by decide +kernel
theorem dX7_many_16 : decode cX7_many 16 = .ok (.lload_n 3, 1) := by decide +kernel
theorem dX7_many_17 : decode cX7_many 17 = .ok (.lreturn, 1) := by decide +kernel
theorem dX7_many_18 : decode cX7_many 18 = .ok (.aload_n 0, 1) := by decide +kernel
theorem dX7_many_19 : decode cX7_many 19 = .ok (.getfield 25, 3) := by decide +kernel
theorem dX7_many_22 : decode cX7_many 22 = .ok (.iload_n 1, 1) := by decide +kernel
theorem dX7_many_23 : decode cX7_many 23 = .ok (.aaload, 1) := by decide +kernel
theorem dX7_many_24 : decode cX7_many 24 = .ok (.astore 5, 2) := by decide +kernel
theorem dX7_many_26 : decode cX7_many 26 = .ok (.aload_n 0, 1) := by decide +kernel
theorem dX7_many_27 : decode cX7_many 27 = .ok (.getfield 35, 3) := by decide +kernel
theorem dX7_many_30 : decode cX7_many 30 = .ok (.aload 5, 2) := by decide +kernel
theorem dX7_many_32 : decode cX7_many 32 = .ok (.iload_n 2, 1) := by decide +kernel
theorem dX7_many_33 : decode cX7_many 33 = .ok (.iconst 0, 1) := by decide +kernel
theorem dX7_many_34 : decode cX7_many 34 = .ok (.invokevirtual 211, 3) := by decide +kernel
theorem dX7_many_37 : decode cX7_many 37 = .ok (.aload_n 0, 1) := by decide +kernel
theorem dX7_many_38 : decode cX7_many 38 = .ok (.getfield 35, 3) := by decide +kernel
theorem dX7_many_41 : decode cX7_many 41 = .ok (.iconst 0, 1) := by decide +kernel
theorem dX7_many_42 : decode cX7_many 42 = .ok (.aload 5, 2) := by decide +kernel
theorem dX7_many_44 : decode cX7_many 44 = .ok (.getfield 166, 3) := by decide +kernel
theorem dX7_many_47 : decode cX7_many 47 = .ok (.invokevirtual 215, 3) := by decide +kernel
theorem dX7_many_50 : decode cX7_many 50 = .ok (.ldc2_w 219, 3) := by decide +kernel
theorem dX7_many_53 : decode cX7_many 53 = .ok (.lcmp, 1) := by decide +kernel
theorem dX7_many_54 : decode cX7_many 54 = .ok (.ifCond .ne 5, 3) := by decide +kernel
theorem dX7_many_57 : decode cX7_many 57 = .ok (.lconst 0, 1) := by decide +kernel
theorem dX7_many_58 : decode cX7_many 58 = .ok (.lreturn, 1) := by decide +kernel
theorem dX7_many_59 : decode cX7_many 59 = .ok (.aload_n 0, 1) := by decide +kernel
theorem dX7_many_60 : decode cX7_many 60 = .ok (.getfield 35, 3) := by decide +kernel
theorem dX7_many_63 : decode cX7_many 63 = .ok (.aload 5, 2) := by decide +kernel
theorem dX7_many_65 : decode cX7_many 65 = .ok (.iload_n 2, 1) := by decide +kernel
theorem dX7_many_66 : decode cX7_many 66 = .ok (.invokevirtual 225, 3) := by decide +kernel
theorem dX7_many_69 : decode cX7_many 69 = .ok (.lreturn, 1) := by decide +kernel
theorem dX7_value_0 : decode cX7_value 0 = .ok (.aload_n 0, 1) := by decide +kernel
theorem dX7_value_1 : decode cX7_value 1 = .ok (.iload_n 1, 1) := by decide +kernel
theorem dX7_value_2 : decode cX7_value 2 = .ok (.iload_n 2, 1) := by decide +kernel
theorem dX7_value_3 : decode cX7_value 3 = .ok (.invokestatic 195, 3) := by decide +kernel
theorem dX7_value_6 : decode cX7_value 6 = .ok (.invokevirtual 156, 3) := by decide +kernel
theorem dX7_value_9 : decode cX7_value 9 = .ok (.lstore 5, 2) := by decide +kernel
end
section
theorem dX7_value_11 : decode cX7_value 11 = .ok (.lload 5, 2) := by decide +kernel
theorem dX7_value_13 : decode cX7_value 13 = .ok (.lconst 0, 1) := by decide +kernel
theorem dX7_value_14 : decode cX7_value 14 = .ok (.lcmp, 1) := by decide +kernel
theorem dX7_value_15 : decode cX7_value 15 = .ok (.ifCond .eq 6, 3) := by decide +kernel
theorem dX7_value_18 : decode cX7_value 18 = .ok (.lload 5, 2) := by decide +kernel
theorem dX7_value_20 : decode cX7_value 20 = .ok (.lreturn, 1) := by decide +kernel
theorem dX7_value_21 : decode cX7_value 21 = .ok (.aload_n 0, 1) := by decide +kernel
theorem dX7_value_22 : decode cX7_value 22 = .ok (.getfield 25, 3) := by decide +kernel
theorem dX7_value_25 : decode cX7_value 25 = .ok (.iload_n 1, 1) := by decide +kernel
theorem dX7_value_26 : decode cX7_value 26 = .ok (.aaload, 1) := by decide +kernel
theorem dX7_value_27 : decode cX7_value 27 = .ok (.astore 7, 2) := by decide +kernel
theorem dX7_value_29 : decode cX7_value 29 = .ok (.iload_n 3, 1) := by decide +kernel
theorem dX7_value_30 : decode cX7_value 30 = .ok (.iconst 0, 1) := by decide +kernel
theorem dX7_value_31 : decode cX7_value 31 = .ok (.aload_n 0, 1) := by decide +kernel
theorem dX7_value_32 : decode cX7_value 32 = .ok (.getfield 12, 3) := by decide +kernel
theorem dX7_value_35 : decode cX7_value 35 = .ok (.getfield 70, 3) := by decide +kernel
theorem dX7_value_38 : decode cX7_value 38 = .ok (.invokestatic 60, 3) := by decide +kernel
theorem dX7_value_41 : decode cX7_value 41 = .ok (.ifCond .eq 17, 3) := by decide +kernel
theorem dX7_value_44 : decode cX7_value 44 = .ok (.iload 4, 2) := by decide +kernel
theorem dX7_value_46 : decode cX7_value 46 = .ok (.iconst 0, 1) := by decide +kernel
theorem dX7_value_47 : decode cX7_value 47 = .ok (.aload 7, 2) := by decide +kernel
theorem dX7_value_49 : decode cX7_value 49 = .ok (.getfield 229, 3) := by decide +kernel
theorem dX7_value_52 : decode cX7_value 52 = .ok (.invokestatic 60, 3) := by decide +kernel
theorem dX7_value_55 : decode cX7_value 55 = .ok (.ifCond .ne 7, 3) := by decide +kernel
theorem dX7_value_58 : decode cX7_value 58 = .ok (.ldc2_w 64, 3) := by decide +kernel
theorem dX7_value_61 : decode cX7_value 61 = .ok (.lreturn, 1) := by decide +kernel
theorem dX7_value_62 : decode cX7_value 62 = .ok (.aload_n 0, 1) := by decide +kernel
theorem dX7_value_63 : decode cX7_value 63 = .ok (.getfield 35, 3) := by decide +kernel
theorem dX7_value_66 : decode cX7_value 66 = .ok (.aload 7, 2) := by decide +kernel
theorem dX7_value_68 : decode cX7_value 68 = .ok (.iload_n 2, 1) := by decide +kernel
theorem dX7_value_69 : decode cX7_value 69 = .ok (.iload_n 3, 1) := by decide +kernel
theorem dX7_value_70 : decode cX7_value 70 = .ok (.invokevirtual 211, 3) := by decide +kernel
theorem dX7_value_73 : decode cX7_value 73 = .ok (.aload_n 0, 1) := by decide +kernel
theorem dX7_value_74 : decode cX7_value 74 = .ok (.getfield 35, 3) := by decide +kernel
theorem dX7_value_77 : decode cX7_value 77 = .ok (.iload_n 3, 1) := by decide +kernel
theorem dX7_value_78 : decode cX7_value 78 = .ok (.iload 4, 2) := by decide +kernel
theorem dX7_value_80 : decode cX7_value 80 = .ok (.invokevirtual 215, 3) := by decide +kernel
theorem dX7_value_83 : decode cX7_value 83 = .ok (.lreturn, 1) := by decide +kernel
theorem dX7_bid_0 : decode cX7_bid 0 = .ok (.aload_n 0, 1) := by decide +kernel
theorem dX7_bid_1 : decode cX7_bid 1 = .ok (.iload_n 1, 1) := by decide +kernel
theorem dX7_bid_2 : decode cX7_bid 2 = .ok (.invokevirtual 178, 3) := by decide +kernel
theorem dX7_bid_5 : decode cX7_bid 5 = .ok (.ifCond .eq 16, 3) := by decide +kernel
theorem dX7_bid_8 : decode cX7_bid 8 = .ok (.aload_n 0, 1) := by decide +kernel
theorem dX7_bid_9 : decode cX7_bid 9 = .ok (.iload_n 2, 1) := by decide +kernel
theorem dX7_bid_10 : decode cX7_bid 10 = .ok (.invokevirtual 178, 3) := by decide +kernel
theorem dX7_bid_13 : decode cX7_bid 13 = .ok (.ifCond .eq 8, 3) := by decide +kernel
theorem dX7_bid_16 : decode cX7_bid 16 = .ok (.iload_n 1, 1) := by decide +kernel
theorem dX7_bid_17 : decode cX7_bid 17 = .ok (.iload_n 2, 1) := by decide +kernel
theorem dX7_bid_18 : decode cX7_bid 18 = .ok (.if_icmp .le 7, 3) := by decide +kernel
theorem dX7_bid_21 : decode cX7_bid 21 = .ok (.ldc2_w 64, 3) := by decide +kernel
theorem dX7_bid_24 : decode cX7_bid 24 = .ok (.lreturn, 1) := by decide +kernel
theorem dX7_bid_25 : decode cX7_bid 25 = .ok (.iload_n 3, 1) := by decide +kernel
theorem dX7_bid_26 : decode cX7_bid 26 = .ok (.ifCond .eq 28, 3) := by decide +kernel
theorem dX7_bid_29 : decode cX7_bid 29 = .ok (.iload_n 3, 1) := by decide +kernel
theorem dX7_bid_30 : decode cX7_bid 30 = .ok (.bipush (-20), 2) := by decide +kernel
theorem dX7_bid_32 : decode cX7_bid 32 = .ok (.bipush 20, 2) := by decide +kernel
theorem dX7_bid_34 : decode cX7_bid 34 = .ok (.invokestatic 60, 3) := by decide +kernel
theorem dX7_bid_37 : decode cX7_bid 37 = .ok (.ifCond .eq 17, 3) := by decide +kernel
theorem dX7_bid_40 : decode cX7_bid 40 = .ok (.iload 4, 2) := by decide +kernel
theorem dX7_bid_42 : decode cX7_bid 42 = .ok (.sipush (-10000), 3) := by decide +kernel
theorem dX7_bid_45 : decode cX7_bid 45 = .ok (.sipush 10000, 3) := by decide +kernel
theorem dX7_bid_48 : decode cX7_bid 48 = .ok (.invokestatic 60, 3) := by decide +kernel
theorem dX7_bid_51 : decode cX7_bid 51 = .ok (.ifCond .ne 7, 3) := by decide +kernel
theorem dX7_bid_54 : decode cX7_bid 54 = .ok (.ldc2_w 64, 3) := by decide +kernel
theorem dX7_bid_57 : decode cX7_bid 57 = .ok (.lreturn, 1) := by decide +kernel
theorem dX7_bid_58 : decode cX7_bid 58 = .ok (.aload_n 0, 1) := by decide +kernel
theorem dX7_bid_59 : decode cX7_bid 59 = .ok (.getfield 42, 3) := by decide +kernel
theorem dX7_bid_62 : decode cX7_bid 62 = .ok (.getfield 66, 3) := by decide +kernel
theorem dX7_bid_65 : decode cX7_bid 65 = .ok (.bipush 12, 2) := by decide +kernel
theorem dX7_bid_67 : decode cX7_bid 67 = .ok (.if_icmp .lt 7, 3) := by decide +kernel
theorem dX7_bid_70 : decode cX7_bid 70 = .ok (.ldc2_w 230, 3) := by decide +kernel
theorem dX7_bid_73 : decode cX7_bid 73 = .ok (.lreturn, 1) := by decide +kernel
theorem dX7_bid_74 : decode cX7_bid 74 = .ok (.aload_n 0, 1) := by decide +kernel
theorem dX7_bid_75 : decode cX7_bid 75 = .ok (.getfield 42, 3) := by decide +kernel
theorem dX7_bid_78 : decode cX7_bid 78 = .ok (.iload_n 1, 1) := by decide +kernel
theorem dX7_bid_79 : decode cX7_bid 79 = .ok (.iload_n 2, 1) := by decide +kernel
theorem dX7_bid_80 : decode cX7_bid 80 = .ok (.iload_n 3, 1) := by decide +kernel
theorem dX7_bid_81 : decode cX7_bid 81 = .ok (.iload 4, 2) := by decide +kernel
theorem dX7_bid_83 : decode cX7_bid 83 = .ok (.invokevirtual 232, 3) := by decide +kernel
theorem dX7_bid_86 : decode cX7_bid 86 = .ok (.i2l, 1) := by decide +kernel
theorem dX7_bid_87 : decode cX7_bid 87 = .ok (.lreturn, 1) := by decide +kernel
theorem dX7_unbid_0 : decode cX7_unbid 0 = .ok (.aload_n 0, 1) := by decide +kernel
theorem dX7_unbid_1 : decode cX7_unbid 1 = .ok (.getfield 42, 3) := by decide +kernel
theorem dX7_unbid_4 : decode cX7_unbid 4 = .ok (.getfield 66, 3) := by decide +kernel
theorem dX7_unbid_7 : decode cX7_unbid 7 = .ok (.ifCond .gt 7, 3) := by decide +kernel
theorem dX7_unbid_10 : decode cX7_unbid 10 = .ok (.ldc2_w 124, 3) := by decide +kernel
theorem dX7_unbid_13 : decode cX7_unbid 13 = .ok (.lreturn, 1) := by decide +kernel
theorem dX7_unbid_14 : decode cX7_unbid 14 = .ok (.aload_n 0, 1) := by decide +kernel
theorem dX7_unbid_15 : decode cX7_unbid 15 = .ok (.getfield 42, 3) := by decide +kernel
theorem dX7_unbid_18 : decode cX7_unbid 18 = .ok (.dup, 1) := by decide +kernel
theorem dX7_unbid_19 : decode cX7_unbid 19 = .ok (.getfield 66, 3) := by decide +kernel
theorem dX7_unbid_22 : decode cX7_unbid 22 = .ok (.iconst 1, 1) := by decide +kernel
theorem dX7_unbid_23 : decode cX7_unbid 23 = .ok (.isub, 1) := by decide +kernel
theorem dX7_unbid_24 : decode cX7_unbid 24 = .ok (.putfield 66, 3) := by decide +kernel
theorem dX7_unbid_27 : decode cX7_unbid 27 = .ok (.aload_n 0, 1) := by decide +kernel
theorem dX7_unbid_28 : decode cX7_unbid 28 = .ok (.getfield 42, 3) := by decide +kernel
theorem dX7_unbid_31 : decode cX7_unbid 31 = .ok (.getfield 66, 3) := by decide +kernel
theorem dX7_unbid_34 : decode cX7_unbid 34 = .ok (.i2l, 1) := by decide +kernel
theorem dX7_unbid_35 : decode cX7_unbid 35 = .ok (.lreturn, 1) := by decide +kernel
theorem dX7_taken_0 : decode cX7_taken 0 = .ok (.iload_n 1, 1) := by decide +kernel
theorem dX7_taken_1 : decode cX7_taken 1 = .ok (.iconst 0, 1) := by decide +kernel
theorem dX7_taken_2 : decode cX7_taken 2 = .ok (.aload_n 0, 1) := by decide +kernel
theorem dX7_taken_3 : decode cX7_taken 3 = .ok (.getfield 42, 3) := by decide +kernel
theorem dX7_taken_6 : decode cX7_taken 6 = .ok (.getfield 66, 3) := by decide +kernel
theorem dX7_taken_9 : decode cX7_taken 9 = .ok (.iconst 1, 1) := by decide +kernel
theorem dX7_taken_10 : decode cX7_taken 10 = .ok (.isub, 1) := by decide +kernel
theorem dX7_taken_11 : decode cX7_taken 11 = .ok (.invokestatic 60, 3) := by decide +kernel
theorem dX7_taken_14 : decode cX7_taken 14 = .ok (.ifCond .eq 10, 3) := by decide +kernel
theorem dX7_taken_17 : decode cX7_taken 17 = .ok (.iload_n 2, 1) := by decide +kernel
theorem dX7_taken_18 : decode cX7_taken 18 = .ok (.invokestatic 92, 3) := by decide +kernel
theorem dX7_taken_21 : decode cX7_taken 21 = .ok (.ifCond .ne 7, 3) := by decide +kernel
theorem dX7_taken_24 : decode cX7_taken 24 = .ok (.ldc2_w 64, 3) := by decide +kernel
theorem dX7_taken_27 : decode cX7_taken 27 = .ok (.lreturn, 1) := by decide +kernel
theorem dX7_taken_28 : decode cX7_taken 28 = .ok (.aload_n 0, 1) := by decide +kernel
theorem dX7_taken_29 : decode cX7_taken 29 = .ok (.getfield 42, 3) := by decide +kernel
theorem dX7_taken_32 : decode cX7_taken 32 = .ok (.iload_n 1, 1) := by decide +kernel
theorem dX7_taken_33 : decode cX7_taken 33 = .ok (.aload_n 0, 1) := by decide +kernel
theorem dX7_taken_34 : decode cX7_taken 34 = .ok (.getfield 18, 3) := by decide +kernel
theorem dX7_taken_37 : decode cX7_taken 37 = .ok (.iload_n 2, 1) := by decide +kernel
theorem dX7_taken_38 : decode cX7_taken 38 = .ok (.aaload, 1) := by decide +kernel
theorem dX7_taken_39 : decode cX7_taken 39 = .ok (.invokevirtual 236, 3) := by decide +kernel
theorem dX7_taken_42 : decode cX7_taken 42 = .ok (.invokestatic 84, 3) := by decide +kernel
theorem dX7_taken_45 : decode cX7_taken 45 = .ok (.lreturn, 1) := by decide +kernel
theorem dX7_wanted_0 : decode cX7_wanted 0 = .ok (.iload_n 1, 1) := by decide +kernel
theorem dX7_wanted_1 : decode cX7_wanted 1 = .ok (.invokestatic 92, 3) := by decide +kernel
theorem dX7_wanted_4 : decode cX7_wanted 4 = .ok (.ifCond .ne 7, 3) := by decide +kernel
theorem dX7_wanted_7 : decode cX7_wanted 7 = .ok (.ldc2_w 64, 3) := by decide +kernel
theorem dX7_wanted_10 : decode cX7_wanted 10 = .ok (.lreturn, 1) := by decide +kernel
theorem dX7_wanted_11 : decode cX7_wanted 11 = .ok (.aload_n 0, 1) := by decide +kernel
theorem dX7_wanted_12 : decode cX7_wanted 12 = .ok (.iload_n 2, 1) := by decide +kernel
theorem dX7_wanted_13 : decode cX7_wanted 13 = .ok (.invokevirtual 178, 3) := by decide +kernel
theorem dX7_wanted_16 : decode cX7_wanted 16 = .ok (.ifCond .ne 7, 3) := by decide +kernel
theorem dX7_wanted_19 : decode cX7_wanted 19 = .ok (.ldc2_w 113, 3) := by decide +kernel
theorem dX7_wanted_22 : decode cX7_wanted 22 = .ok (.lreturn, 1) := by decide +kernel
theorem dX7_wanted_23 : decode cX7_wanted 23 = .ok (.aload_n 0, 1) := by decide +kernel
theorem dX7_wanted_24 : decode cX7_wanted 24 = .ok (.getfield 42, 3) := by decide +kernel
theorem dX7_wanted_27 : decode cX7_wanted 27 = .ok (.aload_n 0, 1) := by decide +kernel
theorem dX7_wanted_28 : decode cX7_wanted 28 = .ok (.getfield 18, 3) := by decide +kernel
theorem dX7_wanted_31 : decode cX7_wanted 31 = .ok (.iload_n 1, 1) := by decide +kernel
theorem dX7_wanted_32 : decode cX7_wanted 32 = .ok (.aaload, 1) := by decide +kernel
theorem dX7_wanted_33 : decode cX7_wanted 33 = .ok (.iload_n 2, 1) := by decide +kernel
theorem dX7_wanted_34 : decode cX7_wanted 34 = .ok (.invokevirtual 240, 3) := by decide +kernel
theorem dX7_wanted_37 : decode cX7_wanted 37 = .ok (.i2l, 1) := by decide +kernel
theorem dX7_wanted_38 : decode cX7_wanted 38 = .ok (.lreturn, 1) := by decide +kernel
theorem dX7_fill_0 : decode cX7_fill 0 = .ok (.aload_n 0, 1) := by decide +kernel
theorem dX7_fill_1 : decode cX7_fill 1 = .ok (.iload_n 1, 1) := by decide +kernel
theorem dX7_fill_2 : decode cX7_fill 2 = .ok (.iload_n 2, 1) := by decide +kernel
theorem dX7_fill_3 : decode cX7_fill 3 = .ok (.invokestatic 92, 3) := by decide +kernel
theorem dX7_fill_6 : decode cX7_fill 6 = .ok (.invokevirtual 156, 3) := by decide +kernel
theorem dX7_fill_9 : decode cX7_fill 9 = .ok (.lstore_n 3, 1) := by decide +kernel
theorem dX7_fill_10 : decode cX7_fill 10 = .ok (.lload_n 3, 1) := by decide +kernel
theorem dX7_fill_11 : decode cX7_fill 11 = .ok (.lconst 0, 1) := by decide +kernel
theorem dX7_fill_12 : decode cX7_fill 12 = .ok (.lcmp, 1) := by decide +kernel
theorem dX7_fill_13 : decode cX7_fill 13 = .ok (.ifCond .eq 5, 3) := by decide +kernel
theorem dX7_fill_16 : decode cX7_fill 16 = .ok (.lload_n 3, 1) := by decide +kernel
theorem dX7_fill_17 : decode cX7_fill 17 = .ok (.lreturn, 1) := by decide +kernel
theorem dX7_fill_18 : decode cX7_fill 18 = .ok (.aload_n 0, 1) := by decide +kernel
theorem dX7_fill_19 : decode cX7_fill 19 = .ok (.getfield 25, 3) := by decide +kernel
theorem dX7_fill_22 : decode cX7_fill 22 = .ok (.iload_n 1, 1) := by decide +kernel
theorem dX7_fill_23 : decode cX7_fill 23 = .ok (.aaload, 1) := by decide +kernel
theorem dX7_fill_24 : decode cX7_fill 24 = .ok (.astore 5, 2) := by decide +kernel
theorem dX7_fill_26 : decode cX7_fill 26 = .ok (.aload 5, 2) := by decide +kernel
theorem dX7_fill_28 : decode cX7_fill 28 = .ok (.getfield 166, 3) := by decide +kernel
theorem dX7_fill_31 : decode cX7_fill 31 = .ok (.istore 6, 2) := by decide +kernel
theorem dX7_fill_33 : decode cX7_fill 33 = .ok (.lconst 0, 1) := by decide +kernel
theorem dX7_fill_34 : decode cX7_fill 34 = .ok (.lstore 7, 2) := by decide +kernel
theorem dX7_fill_36 : decode cX7_fill 36 = .ok (.iconst 0, 1) := by decide +kernel
theorem dX7_fill_37 : decode cX7_fill 37 = .ok (.istore 9, 2) := by decide +kernel
theorem dX7_fill_39 : decode cX7_fill 39 = .ok (.iload 9, 2) := by decide +kernel
theorem dX7_fill_41 : decode cX7_fill 41 = .ok (.aload_n 0, 1) := by decide +kernel
theorem dX7_fill_42 : decode cX7_fill 42 = .ok (.getfield 12, 3) := by decide +kernel
theorem dX7_fill_45 : decode cX7_fill 45 = .ok (.getfield 70, 3) := by decide +kernel
theorem dX7_fill_48 : decode cX7_fill 48 = .ok (.if_icmp .ge 85, 3) := by decide +kernel
theorem dX7_fill_51 : decode cX7_fill 51 = .ok (.aload_n 0, 1) := by decide +kernel
theorem dX7_fill_52 : decode cX7_fill 52 = .ok (.getfield 42, 3) := by decide +kernel
theorem dX7_fill_55 : decode cX7_fill 55 = .ok (.aload_n 0, 1) := by decide +kernel
theorem dX7_fill_56 : decode cX7_fill 56 = .ok (.getfield 18, 3) := by decide +kernel
theorem dX7_fill_59 : decode cX7_fill 59 = .ok (.iload_n 2, 1) := by decide +kernel
theorem dX7_fill_60 : decode cX7_fill 60 = .ok (.aaload, 1) := by decide +kernel
theorem dX7_fill_61 : decode cX7_fill 61 = .ok (.iload 9, 2) := by decide +kernel
theorem dX7_fill_63 : decode cX7_fill 63 = .ok (.invokevirtual 240, 3) := by decide +kernel
theorem dX7_fill_66 : decode cX7_fill 66 = .ok (.istore 10, 2) := by decide +kernel
theorem dX7_fill_68 : decode cX7_fill 68 = .ok (.aload_n 0, 1) := by decide +kernel
theorem dX7_fill_69 : decode cX7_fill 69 = .ok (.getfield 12, 3) := by decide +kernel
theorem dX7_fill_72 : decode cX7_fill 72 = .ok (.getfield 80, 3) := by decide +kernel
theorem dX7_fill_75 : decode cX7_fill 75 = .ok (.iload 9, 2) := by decide +kernel
theorem dX7_fill_77 : decode cX7_fill 77 = .ok (.baload, 1) := by decide +kernel
theorem dX7_fill_78 : decode cX7_fill 78 = .ok (.ifCond .eq 7, 3) := by decide +kernel
theorem dX7_fill_81 : decode cX7_fill 81 = .ok (.iconst 0, 1) := by decide +kernel
theorem dX7_fill_82 : decode cX7_fill 82 = .ok (.goto 12, 3) := by decide +kernel
theorem dX7_fill_85 : decode cX7_fill 85 = .ok (.aload 5, 2) := by decide +kernel
theorem dX7_fill_87 : decode cX7_fill 87 = .ok (.iload 10, 2) := by decide +kernel
theorem dX7_fill_89 : decode cX7_fill 89 = .ok (.iload 6, 2) := by decide +kernel
theorem dX7_fill_91 : decode cX7_fill 91 = .ok (.invokevirtual 244, 3) := by decide +kernel
theorem dX7_fill_94 : decode cX7_fill 94 = .ok (.istore 11, 2) := by decide +kernel
theorem dX7_fill_96 : decode cX7_fill 96 = .ok (.aload 5, 2) := by decide +kernel
theorem dX7_fill_98 : decode cX7_fill 98 = .ok (.getfield 181, 3) := by decide +kernel
theorem dX7_fill_101 : decode cX7_fill 101 = .ok (.iload 9, 2) := by decide +kernel
theorem dX7_fill_103 : decode cX7_fill 103 = .ok (.iload 11, 2) := by decide +kernel
theorem dX7_fill_105 : decode cX7_fill 105 = .ok (.iastore, 1) := by decide +kernel
theorem dX7_fill_106 : decode cX7_fill 106 = .ok (.iload 6, 2) := by decide +kernel
theorem dX7_fill_108 : decode cX7_fill 108 = .ok (.iload 11, 2) := by decide +kernel
theorem dX7_fill_110 : decode cX7_fill 110 = .ok (.iadd, 1) := by decide +kernel
theorem dX7_fill_111 : decode cX7_fill 111 = .ok (.istore 6, 2) := by decide +kernel
theorem dX7_fill_113 : decode cX7_fill 113 = .ok (.lload 7, 2) := by decide +kernel
theorem dX7_fill_115 : decode cX7_fill 115 = .ok (.iload 10, 2) := by decide +kernel
theorem dX7_fill_117 : decode cX7_fill 117 = .ok (.iload 11, 2) := by decide +kernel
theorem dX7_fill_119 : decode cX7_fill 119 = .ok (.isub, 1) := by decide +kernel
theorem dX7_fill_120 : decode cX7_fill 120 = .ok (.invokestatic 248, 3) := by decide +kernel
theorem dX7_fill_123 : decode cX7_fill 123 = .ok (.i2l, 1) := by decide +kernel
theorem dX7_fill_124 : decode cX7_fill 124 = .ok (.ladd, 1) := by decide +kernel
theorem dX7_fill_125 : decode cX7_fill 125 = .ok (.lstore 7, 2) := by decide +kernel
theorem dX7_fill_127 : decode cX7_fill 127 = .ok (.iinc 9 1, 3) := by decide +kernel
theorem dX7_fill_130 : decode cX7_fill 130 = .ok (.goto (-91), 3) := by decide +kernel
theorem dX7_fill_133 : decode cX7_fill 133 = .ok (.lload 7, 2) := by decide +kernel
theorem dX7_fill_135 : decode cX7_fill 135 = .ok (.lreturn, 1) := by decide +kernel
theorem dX7_meter_0 : decode cX7_meter 0 = .ok (.iload_n 1, 1) := by decide +kernel
theorem dX7_meter_1 : decode cX7_meter 1 = .ok (.invokestatic 76, 3) := by decide +kernel
theorem dX7_meter_4 : decode cX7_meter 4 = .ok (.ifCond .eq 16, 3) := by decide +kernel
theorem dX7_meter_7 : decode cX7_meter 7 = .ok (.iload_n 2, 1) := by decide +kernel
theorem dX7_meter_8 : decode cX7_meter 8 = .ok (.sipush (-1001), 3) := by decide +kernel
theorem dX7_meter_11 : decode cX7_meter 11 = .ok (.sipush 1000, 3) := by decide +kernel
theorem dX7_meter_14 : decode cX7_meter 14 = .ok (.invokestatic 60, 3) := by decide +kernel
theorem dX7_meter_17 : decode cX7_meter 17 = .ok (.ifCond .ne 7, 3) := by decide +kernel
theorem dX7_meter_20 : decode cX7_meter 20 = .ok (.ldc2_w 64, 3) := by decide +kernel
theorem dX7_meter_23 : decode cX7_meter 23 = .ok (.lreturn, 1) := by decide +kernel
theorem dX7_meter_24 : decode cX7_meter 24 = .ok (.aload_n 0, 1) := by decide +kernel
theorem dX7_meter_25 : decode cX7_meter 25 = .ok (.getfield 49, 3) := by decide +kernel
theorem dX7_meter_28 : decode cX7_meter 28 = .ok (.getfield 251, 3) := by decide +kernel
theorem dX7_meter_31 : decode cX7_meter 31 = .ok (.iload_n 1, 1) := by decide +kernel
theorem dX7_meter_32 : decode cX7_meter 32 = .ok (.iaload, 1) := by decide +kernel
theorem dX7_meter_33 : decode cX7_meter 33 = .ok (.istore_n 3, 1) := by decide +kernel
theorem dX7_meter_34 : decode cX7_meter 34 = .ok (.aload_n 0, 1) := by decide +kernel
theorem dX7_meter_35 : decode cX7_meter 35 = .ok (.getfield 49, 3) := by decide +kernel
theorem dX7_meter_38 : decode cX7_meter 38 = .ok (.getfield 251, 3) := by decide +kernel
theorem dX7_meter_41 : decode cX7_meter 41 = .ok (.iload_n 1, 1) := by decide +kernel
theorem dX7_meter_42 : decode cX7_meter 42 = .ok (.iload_n 2, 1) := by decide +kernel
theorem dX7_meter_43 : decode cX7_meter 43 = .ok (.iastore, 1) := by decide +kernel
theorem dX7_meter_44 : decode cX7_meter 44 = .ok (.iload_n 3, 1) := by decide +kernel
theorem dX7_meter_45 : decode cX7_meter 45 = .ok (.i2l, 1) := by decide +kernel
theorem dX7_meter_46 : decode cX7_meter 46 = .ok (.lreturn, 1) := by decide +kernel
theorem dX7_counts_0 : decode cX7_counts 0 = .ok (.iload_n 1, 1) := by decide +kernel
theorem dX7_counts_1 : decode cX7_counts 1 = .ok (.invokestatic 76, 3) := by decide +kernel
theorem dX7_counts_4 : decode cX7_counts 4 = .ok (.ifCond .ne 7, 3) := by decide +kernel
theorem dX7_counts_7 : decode cX7_counts 7 = .ok (.ldc2_w 64, 3) := by decide +kernel
theorem dX7_counts_10 : decode cX7_counts 10 = .ok (.lreturn, 1) := by decide +kernel
theorem dX7_counts_11 : decode cX7_counts 11 = .ok (.aload_n 0, 1) := by decide +kernel
theorem dX7_counts_12 : decode cX7_counts 12 = .ok (.getfield 49, 3) := by decide +kernel
theorem dX7_counts_15 : decode cX7_counts 15 = .ok (.iload_n 1, 1) := by decide +kernel
theorem dX7_counts_16 : decode cX7_counts 16 = .ok (.invokevirtual 254, 3) := by decide +kernel
theorem dX7_counts_19 : decode cX7_counts 19 = .ok (.i2l, 1) := by decide +kernel
theorem dX7_counts_20 : decode cX7_counts 20 = .ok (.lreturn, 1) := by decide +kernel
theorem dX7_live_0 : decode cX7_live 0 = .ok (.aload_n 0, 1) := by decide +kernel
theorem dX7_live_1 : decode cX7_live 1 = .ok (.iload_n 1, 1) := by decide +kernel
theorem dX7_live_2 : decode cX7_live 2 = .ok (.iload_n 2, 1) := by decide +kernel
theorem dX7_live_3 : decode cX7_live 3 = .ok (.invokestatic 92, 3) := by decide +kernel
theorem dX7_live_6 : decode cX7_live 6 = .ok (.invokevirtual 156, 3) := by decide +kernel
theorem dX7_live_9 : decode cX7_live 9 = .ok (.lstore_n 3, 1) := by decide +kernel
theorem dX7_live_10 : decode cX7_live 10 = .ok (.lload_n 3, 1) := by decide +kernel
theorem dX7_live_11 : decode cX7_live 11 = .ok (.lconst 0, 1) := by decide +kernel
theorem dX7_live_12 : decode cX7_live 12 = .ok (.lcmp, 1) := by decide +kernel
theorem dX7_live_13 : decode cX7_live 13 = .ok (.ifCond .eq 5, 3) := by decide +kernel
theorem dX7_live_16 : decode cX7_live 16 = .ok (.lload_n 3, 1) := by decide +kernel
theorem dX7_live_17 : decode cX7_live 17 = .ok (.lreturn, 1) := by decide +kernel
theorem dX7_live_18 : decode cX7_live 18 = .ok (.aload_n 0, 1) := by decide +kernel
theorem dX7_live_19 : decode cX7_live 19 = .ok (.getfield 25, 3) := by decide +kernel
theorem dX7_live_22 : decode cX7_live 22 = .ok (.iload_n 1, 1) := by decide +kernel
theorem dX7_live_23 : decode cX7_live 23 = .ok (.aaload, 1) := by decide +kernel
theorem dX7_live_24 : decode cX7_live 24 = .ok (.astore 5, 2) := by decide +kernel
theorem dX7_live_26 : decode cX7_live 26 = .ok (.aload_n 0, 1) := by decide +kernel
theorem dX7_live_27 : decode cX7_live 27 = .ok (.getfield 12, 3) := by decide +kernel
theorem dX7_live_30 : decode cX7_live 30 = .ok (.aload 5, 2) := by decide +kernel
theorem dX7_live_32 : decode cX7_live 32 = .ok (.invokevirtual 187, 3) := by decide +kernel
theorem dX7_live_35 : decode cX7_live 35 = .ok (.ldc2_w 219, 3) := by decide +kernel
theorem dX7_live_38 : decode cX7_live 38 = .ok (.lcmp, 1) := by decide +kernel
theorem dX7_live_39 : decode cX7_live 39 = .ok (.ifCond .eq 7, 3) := by decide +kernel
theorem dX7_live_42 : decode cX7_live 42 = .ok (.ldc2_w 124, 3) := by decide +kernel
theorem dX7_live_45 : decode cX7_live 45 = .ok (.lreturn, 1) := by decide +kernel
theorem dX7_live_46 : decode cX7_live 46 = .ok (.aload_n 0, 1) := by decide +kernel
theorem dX7_live_47 : decode cX7_live 47 = .ok (.getfield 56, 3) := by decide +kernel
theorem dX7_live_50 : decode cX7_live 50 = .ok (.getfield 257, 3) := by decide +kernel
theorem dX7_live_53 : decode cX7_live 53 = .ok (.aload_n 0, 1) := by decide +kernel
theorem dX7_live_54 : decode cX7_live 54 = .ok (.getfield 12, 3) := by decide +kernel
theorem dX7_live_57 : decode cX7_live 57 = .ok (.getfield 70, 3) := by decide +kernel
theorem dX7_live_60 : decode cX7_live 60 = .ok (.iadd, 1) := by decide +kernel
theorem dX7_live_61 : decode cX7_live 61 = .ok (.sipush 150, 3) := by decide +kernel
theorem dX7_live_64 : decode cX7_live 64 = .ok (.if_icmp .le 7, 3) := by decide +kernel
theorem dX7_live_67 : decode cX7_live 67 = .ok (.ldc2_w 230, 3) := by decide +kernel
theorem dX7_live_70 : decode cX7_live 70 = .ok (.lreturn, 1) := by decide +kernel
theorem dX7_live_71 : decode cX7_live 71 = .ok (.iconst 0, 1) := by decide +kernel
theorem dX7_live_72 : decode cX7_live 72 = .ok (.istore 6, 2) := by decide +kernel
theorem dX7_live_74 : decode cX7_live 74 = .ok (.iload 6, 2) := by decide +kernel
theorem dX7_live_76 : decode cX7_live 76 = .ok (.aload_n 0, 1) := by decide +kernel
theorem dX7_live_77 : decode cX7_live 77 = .ok (.getfield 12, 3) := by decide +kernel
theorem dX7_live_80 : decode cX7_live 80 = .ok (.getfield 70, 3) := by decide +kernel
theorem dX7_live_83 : decode cX7_live 83 = .ok (.if_icmp .ge 51, 3) := by decide +kernel
theorem dX7_live_86 : decode cX7_live 86 = .ok (.aload 5, 2) := by decide +kernel
theorem dX7_live_88 : decode cX7_live 88 = .ok (.getfield 181, 3) := by decide +kernel
theorem dX7_live_91 : decode cX7_live 91 = .ok (.iload 6, 2) := by decide +kernel
theorem dX7_live_93 : decode cX7_live 93 = .ok (.iaload, 1) := by decide +kernel
theorem dX7_live_94 : decode cX7_live 94 = .ok (.istore 7, 2) := by decide +kernel
theorem dX7_live_96 : decode cX7_live 96 = .ok (.aload_n 0, 1) := by decide +kernel
theorem dX7_live_97 : decode cX7_live 97 = .ok (.getfield 56, 3) := by decide +kernel
theorem dX7_live_100 : decode cX7_live 100 = .ok (.iload_n 1, 1) := by decide +kernel
theorem dX7_live_101 : decode cX7_live 101 = .ok (.iload_n 2, 1) := by decide +kernel
theorem dX7_live_102 : decode cX7_live 102 = .ok (.iload 6, 2) := by decide +kernel
theorem dX7_live_104 : decode cX7_live 104 = .ok (.iload 7, 2) := by decide +kernel
theorem dX7_live_106 : decode cX7_live 106 = .ok (.aload 5, 2) := by decide +kernel
theorem dX7_live_108 : decode cX7_live 108 = .ok (.iload 7, 2) := by decide +kernel
theorem dX7_live_110 : decode cX7_live 110 = .ok (.aload_n 0, 1) := by decide +kernel
theorem dX7_live_111 : decode cX7_live 111 = .ok (.getfield 18, 3) := by decide +kernel
theorem dX7_live_114 : decode cX7_live 114 = .ok (.iload_n 2, 1) := by decide +kernel
theorem dX7_live_115 : decode cX7_live 115 = .ok (.aaload, 1) := by decide +kernel
theorem dX7_live_116 : decode cX7_live 116 = .ok (.iload 6, 2) := by decide +kernel
theorem dX7_live_118 : decode cX7_live 118 = .ok (.invokevirtual 136, 3) := by decide +kernel
theorem dX7_live_121 : decode cX7_live 121 = .ok (.i2l, 1) := by decide +kernel
theorem dX7_live_122 : decode cX7_live 122 = .ok (.invokevirtual 260, 3) := by decide +kernel
theorem dX7_live_125 : decode cX7_live 125 = .ok (.invokevirtual 264, 3) := by decide +kernel
theorem dX7_live_128 : decode cX7_live 128 = .ok (.iinc 6 1, 3) := by decide +kernel
theorem dX7_live_131 : decode cX7_live 131 = .ok (.goto (-57), 3) := by decide +kernel
theorem dX7_live_134 : decode cX7_live 134 = .ok (.aload 5, 2) := by decide +kernel
theorem dX7_live_136 : decode cX7_live 136 = .ok (.aload 5, 2) := by decide +kernel
theorem dX7_live_138 : decode cX7_live 138 = .ok (.aload_n 0, 1) := by decide +kernel
theorem dX7_live_139 : decode cX7_live 139 = .ok (.getfield 12, 3) := by decide +kernel
theorem dX7_live_142 : decode cX7_live 142 = .ok (.getfield 70, 3) := by decide +kernel
theorem dX7_live_145 : decode cX7_live 145 = .ok (.iconst 1, 1) := by decide +kernel
theorem dX7_live_146 : decode cX7_live 146 = .ok (.isub, 1) := by decide +kernel
theorem dX7_live_147 : decode cX7_live 147 = .ok (.invokevirtual 184, 3) := by decide +kernel
theorem dX7_live_150 : decode cX7_live 150 = .ok (.putfield 166, 3) := by decide +kernel
theorem dX7_live_153 : decode cX7_live 153 = .ok (.aload_n 0, 1) := by decide +kernel
theorem dX7_live_154 : decode cX7_live 154 = .ok (.getfield 56, 3) := by decide +kernel
theorem dX7_live_157 : decode cX7_live 157 = .ok (.getfield 257, 3) := by decide +kernel
theorem dX7_live_160 : decode cX7_live 160 = .ok (.i2l, 1) := by decide +kernel
theorem dX7_live_161 : decode cX7_live 161 = .ok (.lreturn, 1) := by decide +kernel
theorem dX7_row_0 : decode cX7_row 0 = .ok (.iload_n 1, 1) := by decide +kernel
theorem dX7_row_1 : decode cX7_row 1 = .ok (.iconst 0, 1) := by decide +kernel
theorem dX7_row_2 : decode cX7_row 2 = .ok (.aload_n 0, 1) := by decide +kernel
theorem dX7_row_3 : decode cX7_row 3 = .ok (.getfield 56, 3) := by decide +kernel
theorem dX7_row_6 : decode cX7_row 6 = .ok (.getfield 257, 3) := by decide +kernel
theorem dX7_row_9 : decode cX7_row 9 = .ok (.iconst 1, 1) := by decide +kernel
theorem dX7_row_10 : decode cX7_row 10 = .ok (.isub, 1) := by decide +kernel
theorem dX7_row_11 : decode cX7_row 11 = .ok (.invokestatic 60, 3) := by decide +kernel
theorem dX7_row_14 : decode cX7_row 14 = .ok (.ifCond .eq 12, 3) := by decide +kernel
theorem dX7_row_17 : decode cX7_row 17 = .ok (.iload_n 2, 1) := by decide +kernel
theorem dX7_row_18 : decode cX7_row 18 = .ok (.iconst 0, 1) := by decide +kernel
theorem dX7_row_19 : decode cX7_row 19 = .ok (.iconst 4, 1) := by decide +kernel
theorem dX7_row_20 : decode cX7_row 20 = .ok (.invokestatic 60, 3) := by decide +kernel
theorem dX7_row_23 : decode cX7_row 23 = .ok (.ifCond .ne 7, 3) := by decide +kernel
theorem dX7_row_26 : decode cX7_row 26 = .ok (.ldc2_w 64, 3) := by decide +kernel
theorem dX7_row_29 : decode cX7_row 29 = .ok (.lreturn, 1) := by decide +kernel
theorem dX7_row_30 : decode cX7_row 30 = .ok (.aload_n 0, 1) := by decide +kernel
theorem dX7_row_31 : decode cX7_row 31 = .ok (.getfield 56, 3) := by decide +kernel
theorem dX7_row_34 : decode cX7_row 34 = .ok (.iload_n 1, 1) := by decide +kernel
theorem dX7_row_35 : decode cX7_row 35 = .ok (.iload_n 2, 1) := by decide +kernel
theorem dX7_row_36 : decode cX7_row 36 = .ok (.invokevirtual 267, 3) := by decide +kernel
theorem dX7_row_39 : decode cX7_row 39 = .ok (.lreturn, 1) := by decide +kernel
theorem dX7_forge_0 : decode cX7_forge 0 = .ok (.iload_n 1, 1) := by decide +kernel
theorem dX7_forge_1 : decode cX7_forge 1 = .ok (.iconst 0, 1) := by decide +kernel
theorem dX7_forge_2 : decode cX7_forge 2 = .ok (.aload_n 0, 1) := by decide +kernel
theorem dX7_forge_3 : decode cX7_forge 3 = .ok (.getfield 56, 3) := by decide +kernel
theorem dX7_forge_6 : decode cX7_forge 6 = .ok (.getfield 257, 3) := by decide +kernel
theorem dX7_forge_9 : decode cX7_forge 9 = .ok (.iconst 1, 1) := by decide +kernel
theorem dX7_forge_10 : decode cX7_forge 10 = .ok (.isub, 1) := by decide +kernel
theorem dX7_forge_11 : decode cX7_forge 11 = .ok (.invokestatic 60, 3) := by decide +kernel
theorem dX7_forge_14 : decode cX7_forge 14 = .ok (.ifCond .eq 12, 3) := by decide +kernel
theorem dX7_forge_17 : decode cX7_forge 17 = .ok (.iload_n 2, 1) := by decide +kernel
theorem dX7_forge_18 : decode cX7_forge 18 = .ok (.iconst 3, 1) := by decide +kernel
theorem dX7_forge_19 : decode cX7_forge 19 = .ok (.iconst 4, 1) := by decide +kernel
theorem dX7_forge_20 : decode cX7_forge 20 = .ok (.invokestatic 60, 3) := by decide +kernel
theorem dX7_forge_23 : decode cX7_forge 23 = .ok (.ifCond .ne 7, 3) := by decide +kernel
theorem dX7_forge_26 : decode cX7_forge 26 = .ok (.ldc2_w 64, 3) := by decide +kernel
theorem dX7_forge_29 : decode cX7_forge 29 = .ok (.lreturn, 1) := by decide +kernel
theorem dX7_forge_30 : decode cX7_forge 30 = .ok (.iload_n 2, 1) := by decide +kernel
theorem dX7_forge_31 : decode cX7_forge 31 = .ok (.iconst 3, 1) := by decide +kernel
theorem dX7_forge_32 : decode cX7_forge 32 = .ok (.if_icmp .ne 18, 3) := by decide +kernel
theorem dX7_forge_35 : decode cX7_forge 35 = .ok (.iload_n 3, 1) := by decide +kernel
theorem dX7_forge_36 : decode cX7_forge 36 = .ok (.bipush (-100), 2) := by decide +kernel
theorem dX7_forge_38 : decode cX7_forge 38 = .ok (.bipush 100, 2) := by decide +kernel
theorem dX7_forge_40 : decode cX7_forge 40 = .ok (.invokestatic 60, 3) := by decide +kernel
theorem dX7_forge_43 : decode cX7_forge 43 = .ok (.ifCond .ne 7, 3) := by decide +kernel
theorem dX7_forge_46 : decode cX7_forge 46 = .ok (.ldc2_w 64, 3) := by decide +kernel
theorem dX7_forge_49 : decode cX7_forge 49 = .ok (.lreturn, 1) := by decide +kernel
theorem dX7_forge_50 : decode cX7_forge 50 = .ok (.aload_n 0, 1) := by decide +kernel
theorem dX7_forge_51 : decode cX7_forge 51 = .ok (.getfield 56, 3) := by decide +kernel
theorem dX7_forge_54 : decode cX7_forge 54 = .ok (.iload_n 1, 1) := by decide +kernel
theorem dX7_forge_55 : decode cX7_forge 55 = .ok (.iload_n 2, 1) := by decide +kernel
theorem dX7_forge_56 : decode cX7_forge 56 = .ok (.invokevirtual 267, 3) := by decide +kernel
theorem dX7_forge_59 : decode cX7_forge 59 = .ok (.lstore 4, 2) := by decide +kernel
theorem dX7_forge_61 : decode cX7_forge 61 = .ok (.iload_n 2, 1) := by decide +kernel
theorem dX7_forge_62 : decode cX7_forge 62 = .ok (.iconst 3, 1) := by decide +kernel
theorem dX7_forge_63 : decode cX7_forge 63 = .ok (.if_icmp .ne 16, 3) := by decide +kernel
theorem dX7_forge_66 : decode cX7_forge 66 = .ok (.aload_n 0, 1) := by decide +kernel
theorem dX7_forge_67 : decode cX7_forge 67 = .ok (.getfield 56, 3) := by decide +kernel
theorem dX7_forge_70 : decode cX7_forge 70 = .ok (.getfield 269, 3) := by decide +kernel
theorem dX7_forge_73 : decode cX7_forge 73 = .ok (.iload_n 1, 1) := by decide +kernel
theorem dX7_forge_74 : decode cX7_forge 74 = .ok (.iload_n 3, 1) := by decide +kernel
theorem dX7_forge_75 : decode cX7_forge 75 = .ok (.iastore, 1) := by decide +kernel
theorem dX7_forge_76 : decode cX7_forge 76 = .ok (.goto 14, 3) := by decide +kernel
theorem dX7_forge_79 : decode cX7_forge 79 = .ok (.aload_n 0, 1) := by decide +kernel
theorem dX7_forge_80 : decode cX7_forge 80 = .ok (.getfield 56, 3) := by decide +kernel
theorem dX7_forge_83 : decode cX7_forge 83 = .ok (.getfield 272, 3) := by decide +kernel
theorem dX7_forge_86 : decode cX7_forge 86 = .ok (.iload_n 1, 1) := by decide +kernel
theorem dX7_forge_87 : decode cX7_forge 87 = .ok (.iload_n 3, 1) := by decide +kernel
theorem dX7_forge_88 : decode cX7_forge 88 = .ok (.i2l, 1) := by decide +kernel
theorem dX7_forge_89 : decode cX7_forge 89 = .ok (.lastore, 1) := by decide +kernel
theorem dX7_forge_90 : decode cX7_forge 90 = .ok (.lload 4, 2) := by decide +kernel
theorem dX7_forge_92 : decode cX7_forge 92 = .ok (.lreturn, 1) := by decide +kernel
theorem dX7_check_0 : decode cX7_check 0 = .ok (.ldc2_w 219, 3) := by decide +kernel
theorem dX7_check_3 : decode cX7_check 3 = .ok (.lstore_n 1, 1) := by decide +kernel
theorem dX7_check_4 : decode cX7_check 4 = .ok (.iconst 0, 1) := by decide +kernel
theorem dX7_check_5 : decode cX7_check 5 = .ok (.istore_n 3, 1) := by decide +kernel
theorem dX7_check_6 : decode cX7_check 6 = .ok (.iload_n 3, 1) := by decide +kernel
theorem dX7_check_7 : decode cX7_check 7 = .ok (.iconst 4, 1) := by decide +kernel
theorem dX7_check_8 : decode cX7_check 8 = .ok (.if_icmp .ge 74, 3) := by decide +kernel
theorem dX7_check_11 : decode cX7_check 11 = .ok (.aload_n 0, 1) := by decide +kernel
theorem dX7_check_12 : decode cX7_check 12 = .ok (.getfield 25, 3) := by decide +kernel
theorem dX7_check_15 : decode cX7_check 15 = .ok (.iload_n 3, 1) := by decide +kernel
theorem dX7_check_16 : decode cX7_check 16 = .ok (.aaload, 1) := by decide +kernel
theorem dX7_check_17 : decode cX7_check 17 = .ok (.getfield 276, 3) := by decide +kernel
theorem dX7_check_20 : decode cX7_check 20 = .ok (.ifCond .eq 24, 3) := by decide +kernel
theorem dX7_check_23 : decode cX7_check 23 = .ok (.aload_n 0, 1) := by decide +kernel
theorem dX7_check_24 : decode cX7_check 24 = .ok (.getfield 56, 3) := by decide +kernel
theorem dX7_check_27 : decode cX7_check 27 = .ok (.iload_n 3, 1) := by decide +kernel
theorem dX7_check_28 : decode cX7_check 28 = .ok (.aload_n 0, 1) := by decide +kernel
theorem dX7_check_29 : decode cX7_check 29 = .ok (.getfield 25, 3) := by decide +kernel
theorem dX7_check_32 : decode cX7_check 32 = .ok (.iload_n 3, 1) := by decide +kernel
theorem dX7_check_33 : decode cX7_check 33 = .ok (.aaload, 1) := by decide +kernel
theorem dX7_check_34 : decode cX7_check 34 = .ok (.aload_n 0, 1) := by decide +kernel
theorem dX7_check_35 : decode cX7_check 35 = .ok (.getfield 18, 3) := by decide +kernel
theorem dX7_check_38 : decode cX7_check 38 = .ok (.invokevirtual 277, 3) := by decide +kernel
theorem dX7_check_41 : decode cX7_check 41 = .ok (.goto 6, 3) := by decide +kernel
theorem dX7_check_44 : decode cX7_check 44 = .ok (.ldc2_w 219, 3) := by decide +kernel
theorem dX7_check_47 : decode cX7_check 47 = .ok (.lstore 4, 2) := by decide +kernel
theorem dX7_check_49 : decode cX7_check 49 = .ok (.lload 4, 2) := by decide +kernel
theorem dX7_check_51 : decode cX7_check 51 = .ok (.ldc2_w 219, 3) := by decide +kernel
theorem dX7_check_54 : decode cX7_check 54 = .ok (.lcmp, 1) := by decide +kernel
theorem dX7_check_55 : decode cX7_check 55 = .ok (.ifCond .eq 21, 3) := by decide +kernel
theorem dX7_check_58 : decode cX7_check 58 = .ok (.lload_n 1, 1) := by decide +kernel
theorem dX7_check_59 : decode cX7_check 59 = .ok (.ldc2_w 219, 3) := by decide +kernel
theorem dX7_check_62 : decode cX7_check 62 = .ok (.lcmp, 1) := by decide +kernel
theorem dX7_check_63 : decode cX7_check 63 = .ok (.ifCond .eq 10, 3) := by decide +kernel
theorem dX7_check_66 : decode cX7_check 66 = .ok (.lload 4, 2) := by decide +kernel
theorem dX7_check_68 : decode cX7_check 68 = .ok (.lload_n 1, 1) := by decide +kernel
theorem dX7_check_69 : decode cX7_check 69 = .ok (.lcmp, 1) := by decide +kernel
theorem dX7_check_70 : decode cX7_check 70 = .ok (.ifCond .ge 6, 3) := by decide +kernel
theorem dX7_check_73 : decode cX7_check 73 = .ok (.lload 4, 2) := by decide +kernel
theorem dX7_check_75 : decode cX7_check 75 = .ok (.lstore_n 1, 1) := by decide +kernel
theorem dX7_check_76 : decode cX7_check 76 = .ok (.iinc 3 1, 3) := by decide +kernel
theorem dX7_check_79 : decode cX7_check 79 = .ok (.goto (-73), 3) := by decide +kernel
theorem dX7_check_82 : decode cX7_check 82 = .ok (.lload_n 1, 1) := by decide +kernel
theorem dX7_check_83 : decode cX7_check 83 = .ok (.lreturn, 1) := by decide +kernel
theorem dX7_shut_0 : decode cX7_shut 0 = .ok (.aload_n 0, 1) := by decide +kernel
theorem dX7_shut_1 : decode cX7_shut 1 = .ok (.getfield 56, 3) := by decide +kernel
theorem dX7_shut_4 : decode cX7_shut 4 = .ok (.getfield 257, 3) := by decide +kernel
theorem dX7_shut_7 : decode cX7_shut 7 = .ok (.istore_n 1, 1) := by decide +kernel
theorem dX7_shut_8 : decode cX7_shut 8 = .ok (.aload_n 0, 1) := by decide +kernel
theorem dX7_shut_9 : decode cX7_shut 9 = .ok (.getfield 56, 3) := by decide +kernel
theorem dX7_shut_12 : decode cX7_shut 12 = .ok (.iconst 0, 1) := by decide +kernel
theorem dX7_shut_13 : decode cX7_shut 13 = .ok (.putfield 257, 3) := by decide +kernel
theorem dX7_shut_16 : decode cX7_shut 16 = .ok (.iload_n 1, 1) := by decide +kernel
theorem dX7_shut_17 : decode cX7_shut 17 = .ok (.i2l, 1) := by decide +kernel
theorem dX7_shut_18 : decode cX7_shut 18 = .ok (.lreturn, 1) := by decide +kernel
theorem dX7_warrant_0 : decode cX7_warrant 0 = .ok (.aload_n 0, 1) := by decide +kernel
theorem dX7_warrant_1 : decode cX7_warrant 1 = .ok (.iload_n 1, 1) := by decide +kernel
theorem dX7_warrant_2 : decode cX7_warrant 2 = .ok (.iload_n 2, 1) := by decide +kernel
theorem dX7_warrant_3 : decode cX7_warrant 3 = .ok (.iconst 0, 1) := by decide +kernel
theorem dX7_warrant_4 : decode cX7_warrant 4 = .ok (.ldc_w 281, 3) := by decide +kernel
theorem dX7_warrant_7 : decode cX7_warrant 7 = .ok (.invokestatic 60, 3) := by decide +kernel
theorem dX7_warrant_10 : decode cX7_warrant 10 = .ok (.invokevirtual 156, 3) := by decide +kernel
theorem dX7_warrant_13 : decode cX7_warrant 13 = .ok (.lstore_n 3, 1) := by decide +kernel
theorem dX7_warrant_14 : decode cX7_warrant 14 = .ok (.lload_n 3, 1) := by decide +kernel
theorem dX7_warrant_15 : decode cX7_warrant 15 = .ok (.lconst 0, 1) := by decide +kernel
theorem dX7_warrant_16 : decode cX7_warrant 16 = .ok (.lcmp, 1) := by decide +kernel
theorem dX7_warrant_17 : decode cX7_warrant 17 = .ok (.ifCond .eq 5, 3) := by decide +kernel
theorem dX7_warrant_20 : decode cX7_warrant 20 = .ok (.lload_n 3, 1) := by decide +kernel
theorem dX7_warrant_21 : decode cX7_warrant 21 = .ok (.lreturn, 1) := by decide +kernel
theorem dX7_warrant_22 : decode cX7_warrant 22 = .ok (.aload_n 0, 1) := by decide +kernel
theorem dX7_warrant_23 : decode cX7_warrant 23 = .ok (.getfield 25, 3) := by decide +kernel
theorem dX7_warrant_26 : decode cX7_warrant 26 = .ok (.iload_n 1, 1) := by decide +kernel
theorem dX7_warrant_27 : decode cX7_warrant 27 = .ok (.aaload, 1) := by decide +kernel
theorem dX7_warrant_28 : decode cX7_warrant 28 = .ok (.getfield 282, 3) := by decide +kernel
theorem dX7_warrant_31 : decode cX7_warrant 31 = .ok (.istore 5, 2) := by decide +kernel
theorem dX7_warrant_33 : decode cX7_warrant 33 = .ok (.aload_n 0, 1) := by decide +kernel
theorem dX7_warrant_34 : decode cX7_warrant 34 = .ok (.getfield 25, 3) := by decide +kernel
theorem dX7_warrant_37 : decode cX7_warrant 37 = .ok (.iload_n 1, 1) := by decide +kernel
theorem dX7_warrant_38 : decode cX7_warrant 38 = .ok (.aaload, 1) := by decide +kernel
theorem dX7_warrant_39 : decode cX7_warrant 39 = .ok (.iload_n 2, 1) := by decide +kernel
theorem dX7_warrant_40 : decode cX7_warrant 40 = .ok (.putfield 282, 3) := by decide +kernel
theorem dX7_warrant_43 : decode cX7_warrant 43 = .ok (.iload 5, 2) := by decide +kernel
theorem dX7_warrant_45 : decode cX7_warrant 45 = .ok (.i2l, 1) := by decide +kernel
theorem dX7_warrant_46 : decode cX7_warrant 46 = .ok (.lreturn, 1) := by decide +kernel
theorem dX7_voided_0 : decode cX7_voided 0 = .ok (.aload_n 0, 1) := by decide +kernel
theorem dX7_voided_1 : decode cX7_voided 1 = .ok (.iload_n 1, 1) := by decide +kernel
theorem dX7_voided_2 : decode cX7_voided 2 = .ok (.iconst 1, 1) := by decide +kernel
theorem dX7_voided_3 : decode cX7_voided 3 = .ok (.invokevirtual 156, 3) := by decide +kernel
theorem dX7_voided_6 : decode cX7_voided 6 = .ok (.lstore_n 2, 1) := by decide +kernel
theorem dX7_voided_7 : decode cX7_voided 7 = .ok (.lload_n 2, 1) := by decide +kernel
theorem dX7_voided_8 : decode cX7_voided 8 = .ok (.lconst 0, 1) := by decide +kernel
theorem dX7_voided_9 : decode cX7_voided 9 = .ok (.lcmp, 1) := by decide +kernel
theorem dX7_voided_10 : decode cX7_voided 10 = .ok (.ifCond .eq 5, 3) := by decide +kernel
theorem dX7_voided_13 : decode cX7_voided 13 = .ok (.lload_n 2, 1) := by decide +kernel
theorem dX7_voided_14 : decode cX7_voided 14 = .ok (.lreturn, 1) := by decide +kernel
theorem dX7_voided_15 : decode cX7_voided 15 = .ok (.aload_n 0, 1) := by decide +kernel
theorem dX7_voided_16 : decode cX7_voided 16 = .ok (.getfield 56, 3) := by decide +kernel
theorem dX7_voided_19 : decode cX7_voided 19 = .ok (.iload_n 1, 1) := by decide +kernel
theorem dX7_voided_20 : decode cX7_voided 20 = .ok (.aload_n 0, 1) := by decide +kernel
theorem dX7_voided_21 : decode cX7_voided 21 = .ok (.getfield 25, 3) := by decide +kernel
theorem dX7_voided_24 : decode cX7_voided 24 = .ok (.iload_n 1, 1) := by decide +kernel
theorem dX7_voided_25 : decode cX7_voided 25 = .ok (.aaload, 1) := by decide +kernel
theorem dX7_voided_26 : decode cX7_voided 26 = .ok (.getfield 282, 3) := by decide +kernel
theorem dX7_voided_29 : decode cX7_voided 29 = .ok (.invokevirtual 285, 3) := by decide +kernel
theorem dX7_voided_32 : decode cX7_voided 32 = .ok (.lreturn, 1) := by decide +kernel
theorem dX7_count_0 : decode cX7_count 0 = .ok (.iload_n 1, 1) := by decide +kernel
theorem dX7_count_1 : decode cX7_count 1 = .ok (.iconst 0, 1) := by decide +kernel
theorem dX7_count_2 : decode cX7_count 2 = .ok (.bipush 7, 2) := by decide +kernel
theorem dX7_count_4 : decode cX7_count 4 = .ok (.invokestatic 60, 3) := by decide +kernel
theorem dX7_count_7 : decode cX7_count 7 = .ok (.ifCond .ne 7, 3) := by decide +kernel
theorem dX7_count_10 : decode cX7_count 10 = .ok (.ldc2_w 64, 3) := by decide +kernel
theorem dX7_count_13 : decode cX7_count 13 = .ok (.lreturn, 1) := by decide +kernel
theorem dX7_count_14 : decode cX7_count 14 = .ok (.iload_n 1, 1) := by decide +kernel
theorem dX7_count_15 : decode cX7_count 15 = .ok (.tableswitch 98 0 6 #[41, 47, 56, 65, 74, 80, 89], 41) := by decide +kernel
theorem dX7_count_56 : decode cX7_count 56 = .ok (.aload_n 0, 1) := by decide +kernel
theorem dX7_count_57 : decode cX7_count 57 = .ok (.invokevirtual 288, 3) := by decide +kernel
theorem dX7_count_60 : decode cX7_count 60 = .ok (.i2l, 1) := by decide +kernel
theorem dX7_count_61 : decode cX7_count 61 = .ok (.lreturn, 1) := by decide +kernel
theorem dX7_count_62 : decode cX7_count 62 = .ok (.aload_n 0, 1) := by decide +kernel
theorem dX7_count_63 : decode cX7_count 63 = .ok (.getfield 12, 3) := by decide +kernel
theorem dX7_count_66 : decode cX7_count 66 = .ok (.getfield 70, 3) := by decide +kernel
theorem dX7_count_69 : decode cX7_count 69 = .ok (.i2l, 1) := by decide +kernel
theorem dX7_count_70 : decode cX7_count 70 = .ok (.lreturn, 1) := by decide +kernel
theorem dX7_count_71 : decode cX7_count 71 = .ok (.aload_n 0, 1) := by decide +kernel
theorem dX7_count_72 : decode cX7_count 72 = .ok (.getfield 42, 3) := by decide +kernel
theorem dX7_count_75 : decode cX7_count 75 = .ok (.getfield 66, 3) := by decide +kernel
theorem dX7_count_78 : decode cX7_count 78 = .ok (.i2l, 1) := by decide +kernel
theorem dX7_count_79 : decode cX7_count 79 = .ok (.lreturn, 1) := by decide +kernel
theorem dX7_count_80 : decode cX7_count 80 = .ok (.aload_n 0, 1) := by decide +kernel
theorem dX7_count_81 : decode cX7_count 81 = .ok (.getfield 56, 3) := by decide +kernel
theorem dX7_count_84 : decode cX7_count 84 = .ok (.getfield 257, 3) := by decide +kernel
theorem dX7_count_87 : decode cX7_count 87 = .ok (.i2l, 1) := by decide +kernel
theorem dX7_count_88 : decode cX7_count 88 = .ok (.lreturn, 1) := by decide +kernel
theorem dX7_count_89 : decode cX7_count 89 = .ok (.aload_n 0, 1) := by decide +kernel
theorem dX7_count_90 : decode cX7_count 90 = .ok (.invokevirtual 292, 3) := by decide +kernel
theorem dX7_count_93 : decode cX7_count 93 = .ok (.i2l, 1) := by decide +kernel
theorem dX7_count_94 : decode cX7_count 94 = .ok (.lreturn, 1) := by decide +kernel
theorem dX7_count_95 : decode cX7_count 95 = .ok (.aload_n 0, 1) := by decide +kernel
theorem dX7_count_96 : decode cX7_count 96 = .ok (.getfield 49, 3) := by decide +kernel
theorem dX7_count_99 : decode cX7_count 99 = .ok (.invokevirtual 295, 3) := by decide +kernel
theorem dX7_count_102 : decode cX7_count 102 = .ok (.i2l, 1) := by decide +kernel
theorem dX7_count_103 : decode cX7_count 103 = .ok (.lreturn, 1) := by decide +kernel
theorem dX7_count_104 : decode cX7_count 104 = .ok (.aload_n 0, 1) := by decide +kernel
theorem dX7_count_105 : decode cX7_count 105 = .ok (.getfield 12, 3) := by decide +kernel
theorem dX7_count_108 : decode cX7_count 108 = .ok (.invokevirtual 298, 3) := by decide +kernel
theorem dX7_count_111 : decode cX7_count 111 = .ok (.i2l, 1) := by decide +kernel
theorem dX7_count_112 : decode cX7_count 112 = .ok (.lreturn, 1) := by decide +kernel
theorem dX7_count_113 : decode cX7_count 113 = .ok (.aload_n 0, 1) := by decide +kernel
theorem dX7_count_114 : decode cX7_count 114 = .ok (.getfield 56, 3) := by decide +kernel
theorem dX7_count_117 : decode cX7_count 117 = .ok (.invokevirtual 301, 3) := by decide +kernel
theorem dX7_count_120 : decode cX7_count 120 = .ok (.lreturn, 1) := by decide +kernel
theorem dX7_refusal_0 : decode cX7_refusal 0 = .ok (.iload_n 1, 1) := by decide +kernel
theorem dX7_refusal_1 : decode cX7_refusal 1 = .ok (.invokestatic 140, 3) := by decide +kernel
theorem dX7_refusal_4 : decode cX7_refusal 4 = .ok (.ifCond .eq 7, 3) := by decide +kernel
theorem dX7_refusal_7 : decode cX7_refusal 7 = .ok (.iload_n 2, 1) := by decide +kernel
theorem dX7_refusal_8 : decode cX7_refusal 8 = .ok (.ifCond .ne 7, 3) := by decide +kernel
theorem dX7_refusal_11 : decode cX7_refusal 11 = .ok (.ldc2_w 64, 3) := by decide +kernel
theorem dX7_refusal_14 : decode cX7_refusal 14 = .ok (.lreturn, 1) := by decide +kernel
theorem dX7_refusal_15 : decode cX7_refusal 15 = .ok (.aload_n 0, 1) := by decide +kernel
theorem dX7_refusal_16 : decode cX7_refusal 16 = .ok (.getfield 25, 3) := by decide +kernel
theorem dX7_refusal_19 : decode cX7_refusal 19 = .ok (.iload_n 1, 1) := by decide +kernel
theorem dX7_refusal_20 : decode cX7_refusal 20 = .ok (.aaload, 1) := by decide +kernel
theorem dX7_refusal_21 : decode cX7_refusal 21 = .ok (.getfield 276, 3) := by decide +kernel
theorem dX7_refusal_24 : decode cX7_refusal 24 = .ok (.ifCond .eq 7, 3) := by decide +kernel
theorem dX7_refusal_27 : decode cX7_refusal 27 = .ok (.lconst 0, 1) := by decide +kernel
theorem dX7_refusal_28 : decode cX7_refusal 28 = .ok (.goto 6, 3) := by decide +kernel
theorem dX7_refusal_31 : decode cX7_refusal 31 = .ok (.ldc2_w 124, 3) := by decide +kernel
theorem dX7_refusal_34 : decode cX7_refusal 34 = .ok (.lreturn, 1) := by decide +kernel
theorem dX7_isStepNow_0 : decode cX7_isStepNow 0 = .ok (.iload_n 1, 1) := by decide +kernel
theorem dX7_isStepNow_1 : decode cX7_isStepNow 1 = .ok (.iconst 0, 1) := by decide +kernel
theorem dX7_isStepNow_2 : decode cX7_isStepNow 2 = .ok (.aload_n 0, 1) := by decide +kernel
theorem dX7_isStepNow_3 : decode cX7_isStepNow 3 = .ok (.getfield 12, 3) := by decide +kernel
theorem dX7_isStepNow_6 : decode cX7_isStepNow 6 = .ok (.getfield 70, 3) := by decide +kernel
theorem dX7_isStepNow_9 : decode cX7_isStepNow 9 = .ok (.iconst 1, 1) := by decide +kernel
theorem dX7_isStepNow_10 : decode cX7_isStepNow 10 = .ok (.isub, 1) := by decide +kernel
theorem dX7_isStepNow_11 : decode cX7_isStepNow 11 = .ok (.invokestatic 60, 3) := by decide +kernel
theorem dX7_isStepNow_14 : decode cX7_isStepNow 14 = .ok (.ireturn, 1) := by decide +kernel
theorem dX7_storesThere_0 : decode cX7_storesThere 0 = .ok (.iconst 0, 1) := by decide +kernel
theorem dX7_storesThere_1 : decode cX7_storesThere 1 = .ok (.istore_n 1, 1) := by decide +kernel
theorem dX7_storesThere_2 : decode cX7_storesThere 2 = .ok (.iconst 0, 1) := by decide +kernel
theorem dX7_storesThere_3 : decode cX7_storesThere 3 = .ok (.istore_n 2, 1) := by decide +kernel
theorem dX7_storesThere_4 : decode cX7_storesThere 4 = .ok (.iload_n 2, 1) := by decide +kernel
theorem dX7_storesThere_5 : decode cX7_storesThere 5 = .ok (.iconst 4, 1) := by decide +kernel
theorem dX7_storesThere_6 : decode cX7_storesThere 6 = .ok (.if_icmp .ge 29, 3) := by decide +kernel
theorem dX7_storesThere_9 : decode cX7_storesThere 9 = .ok (.iload_n 1, 1) := by decide +kernel
theorem dX7_storesThere_10 : decode cX7_storesThere 10 = .ok (.aload_n 0, 1) := by decide +kernel
theorem dX7_storesThere_11 : decode cX7_storesThere 11 = .ok (.getfield 25, 3) := by decide +kernel
theorem dX7_storesThere_14 : decode cX7_storesThere 14 = .ok (.iload_n 2, 1) := by decide +kernel
theorem dX7_storesThere_15 : decode cX7_storesThere 15 = .ok (.aaload, 1) := by decide +kernel
theorem dX7_storesThere_16 : decode cX7_storesThere 16 = .ok (.getfield 276, 3) := by decide +kernel
theorem dX7_storesThere_19 : decode cX7_storesThere 19 = .ok (.ifCond .eq 7, 3) := by decide +kernel
theorem dX7_storesThere_22 : decode cX7_storesThere 22 = .ok (.iconst 1, 1) := by decide +kernel
theorem dX7_storesThere_23 : decode cX7_storesThere 23 = .ok (.goto 4, 3) := by decide +kernel
theorem dX7_storesThere_26 : decode cX7_storesThere 26 = .ok (.iconst 0, 1) := by decide +kernel
theorem dX7_storesThere_27 : decode cX7_storesThere 27 = .ok (.iadd, 1) := by decide +kernel
theorem dX7_storesThere_28 : decode cX7_storesThere 28 = .ok (.istore_n 1, 1) := by decide +kernel
theorem dX7_storesThere_29 : decode cX7_storesThere 29 = .ok (.iinc 2 1, 3) := by decide +kernel
theorem dX7_storesThere_32 : decode cX7_storesThere 32 = .ok (.goto (-28), 3) := by decide +kernel
theorem dX7_storesThere_35 : decode cX7_storesThere 35 = .ok (.iload_n 1, 1) := by decide +kernel
theorem dX7_storesThere_36 : decode cX7_storesThere 36 = .ok (.ireturn, 1) := by decide +kernel
theorem dX7_worldsThere_0 : decode cX7_worldsThere 0 = .ok (.iconst 0, 1) := by decide +kernel
theorem dX7_worldsThere_1 : decode cX7_worldsThere 1 = .ok (.istore_n 1, 1) := by decide +kernel
theorem dX7_worldsThere_2 : decode cX7_worldsThere 2 = .ok (.iconst 0, 1) := by decide +kernel
theorem dX7_worldsThere_3 : decode cX7_worldsThere 3 = .ok (.istore_n 2, 1) := by decide +kernel
theorem dX7_worldsThere_4 : decode cX7_worldsThere 4 = .ok (.iload_n 2, 1) := by decide +kernel
theorem dX7_worldsThere_5 : decode cX7_worldsThere 5 = .ok (.iconst 4, 1) := by decide +kernel
theorem dX7_worldsThere_6 : decode cX7_worldsThere 6 = .ok (.if_icmp .ge 29, 3) := by decide +kernel
theorem dX7_worldsThere_9 : decode cX7_worldsThere 9 = .ok (.iload_n 1, 1) := by decide +kernel
theorem dX7_worldsThere_10 : decode cX7_worldsThere 10 = .ok (.aload_n 0, 1) := by decide +kernel
theorem dX7_worldsThere_11 : decode cX7_worldsThere 11 = .ok (.getfield 18, 3) := by decide +kernel
theorem dX7_worldsThere_14 : decode cX7_worldsThere 14 = .ok (.iload_n 2, 1) := by decide +kernel
theorem dX7_worldsThere_15 : decode cX7_worldsThere 15 = .ok (.aaload, 1) := by decide +kernel
theorem dX7_worldsThere_16 : decode cX7_worldsThere 16 = .ok (.getfield 104, 3) := by decide +kernel
theorem dX7_worldsThere_19 : decode cX7_worldsThere 19 = .ok (.ifCond .eq 7, 3) := by decide +kernel
theorem dX7_worldsThere_22 : decode cX7_worldsThere 22 = .ok (.iconst 1, 1) := by decide +kernel
theorem dX7_worldsThere_23 : decode cX7_worldsThere 23 = .ok (.goto 4, 3) := by decide +kernel
theorem dX7_worldsThere_26 : decode cX7_worldsThere 26 = .ok (.iconst 0, 1) := by decide +kernel
theorem dX7_worldsThere_27 : decode cX7_worldsThere 27 = .ok (.iadd, 1) := by decide +kernel
theorem dX7_worldsThere_28 : decode cX7_worldsThere 28 = .ok (.istore_n 1, 1) := by decide +kernel
theorem dX7_worldsThere_29 : decode cX7_worldsThere 29 = .ok (.iinc 2 1, 3) := by decide +kernel
theorem dX7_worldsThere_32 : decode cX7_worldsThere 32 = .ok (.goto (-28), 3) := by decide +kernel
theorem dX7_worldsThere_35 : decode cX7_worldsThere 35 = .ok (.iload_n 1, 1) := by decide +kernel
theorem dX7_worldsThere_36 : decode cX7_worldsThere 36 = .ok (.ireturn, 1) := by decide +kernel
theorem dX7_within_0 : decode cX7_within 0 = .ok (.iload_n 0, 1) := by decide +kernel
theorem dX7_within_1 : decode cX7_within 1 = .ok (.iload_n 1, 1) := by decide +kernel
theorem dX7_within_2 : decode cX7_within 2 = .ok (.if_icmp .lt 12, 3) := by decide +kernel
theorem dX7_within_5 : decode cX7_within 5 = .ok (.iload_n 0, 1) := by decide +kernel
theorem dX7_within_6 : decode cX7_within 6 = .ok (.iload_n 2, 1) := by decide +kernel
theorem dX7_within_7 : decode cX7_within 7 = .ok (.if_icmp .gt 7, 3) := by decide +kernel
theorem dX7_within_10 : decode cX7_within 10 = .ok (.iconst 1, 1) := by decide +kernel
theorem dX7_within_11 : decode cX7_within 11 = .ok (.goto 4, 3) := by decide +kernel
theorem dX7_within_14 : decode cX7_within 14 = .ok (.iconst 0, 1) := by decide +kernel
theorem dX7_within_15 : decode cX7_within 15 = .ok (.ireturn, 1) := by decide +kernel
theorem dX7_isAnyStep_0 : decode cX7_isAnyStep 0 = .ok (.iload_n 0, 1) := by decide +kernel
theorem dX7_isAnyStep_1 : decode cX7_isAnyStep 1 = .ok (.iconst 0, 1) := by decide +kernel
theorem dX7_isAnyStep_2 : decode cX7_isAnyStep 2 = .ok (.bipush 35, 2) := by decide +kernel
theorem dX7_isAnyStep_4 : decode cX7_isAnyStep 4 = .ok (.invokestatic 60, 3) := by decide +kernel
theorem dX7_isAnyStep_7 : decode cX7_isAnyStep 7 = .ok (.ireturn, 1) := by decide +kernel
theorem dX7_isWorld_0 : decode cX7_isWorld 0 = .ok (.iload_n 0, 1) := by decide +kernel
theorem dX7_isWorld_1 : decode cX7_isWorld 1 = .ok (.iconst 0, 1) := by decide +kernel
theorem dX7_isWorld_2 : decode cX7_isWorld 2 = .ok (.iconst 3, 1) := by decide +kernel
theorem dX7_isWorld_3 : decode cX7_isWorld 3 = .ok (.invokestatic 60, 3) := by decide +kernel
theorem dX7_isWorld_6 : decode cX7_isWorld 6 = .ok (.ireturn, 1) := by decide +kernel
theorem dX7_areWorlds_0 : decode cX7_areWorlds 0 = .ok (.iload_n 0, 1) := by decide +kernel
theorem dX7_areWorlds_1 : decode cX7_areWorlds 1 = .ok (.iconst 1, 1) := by decide +kernel
theorem dX7_areWorlds_2 : decode cX7_areWorlds 2 = .ok (.bipush 15, 2) := by decide +kernel
theorem dX7_areWorlds_4 : decode cX7_areWorlds 4 = .ok (.invokestatic 60, 3) := by decide +kernel
theorem dX7_areWorlds_7 : decode cX7_areWorlds 7 = .ok (.ireturn, 1) := by decide +kernel
theorem dX7_hasWorld_0 : decode cX7_hasWorld 0 = .ok (.iload_n 0, 1) := by decide +kernel
theorem dX7_hasWorld_1 : decode cX7_hasWorld 1 = .ok (.iload_n 1, 1) := by decide +kernel
theorem dX7_hasWorld_2 : decode cX7_hasWorld 2 = .ok (.ishr, 1) := by decide +kernel
theorem dX7_hasWorld_3 : decode cX7_hasWorld 3 = .ok (.iconst 1, 1) := by decide +kernel
theorem dX7_hasWorld_4 : decode cX7_hasWorld 4 = .ok (.iand, 1) := by decide +kernel
theorem dX7_hasWorld_5 : decode cX7_hasWorld 5 = .ok (.iconst 1, 1) := by decide +kernel
theorem dX7_hasWorld_6 : decode cX7_hasWorld 6 = .ok (.if_icmp .ne 7, 3) := by decide +kernel
theorem dX7_hasWorld_9 : decode cX7_hasWorld 9 = .ok (.iconst 1, 1) := by decide +kernel
theorem dX7_hasWorld_10 : decode cX7_hasWorld 10 = .ok (.goto 4, 3) := by decide +kernel
theorem dX7_hasWorld_13 : decode cX7_hasWorld 13 = .ok (.iconst 0, 1) := by decide +kernel
theorem dX7_hasWorld_14 : decode cX7_hasWorld 14 = .ok (.ireturn, 1) := by decide +kernel
theorem dX7_isBattery_0 : decode cX7_isBattery 0 = .ok (.iload_n 0, 1) := by decide +kernel
theorem dX7_isBattery_1 : decode cX7_isBattery 1 = .ok (.iconst 0, 1) := by decide +kernel
theorem dX7_isBattery_2 : decode cX7_isBattery 2 = .ok (.iconst 3, 1) := by decide +kernel
theorem dX7_isBattery_3 : decode cX7_isBattery 3 = .ok (.invokestatic 60, 3) := by decide +kernel
theorem dX7_isBattery_6 : decode cX7_isBattery 6 = .ok (.ireturn, 1) := by decide +kernel
theorem dX7_isKind_0 : decode cX7_isKind 0 = .ok (.iload_n 0, 1) := by decide +kernel
theorem dX7_isKind_1 : decode cX7_isKind 1 = .ok (.iconst 0, 1) := by decide +kernel
theorem dX7_isKind_2 : decode cX7_isKind 2 = .ok (.iconst 4, 1) := by decide +kernel
theorem dX7_isKind_3 : decode cX7_isKind 3 = .ok (.invokestatic 60, 3) := by decide +kernel
theorem dX7_isKind_6 : decode cX7_isKind 6 = .ok (.ireturn, 1) := by decide +kernel
theorem dX7_areRates_0 : decode cX7_areRates 0 = .ok (.iload_n 0, 1) := by decide +kernel
theorem dX7_areRates_1 : decode cX7_areRates 1 = .ok (.bipush 21, 2) := by decide +kernel
theorem dX7_areRates_3 : decode cX7_areRates 3 = .ok (.idiv, 1) := by decide +kernel
theorem dX7_areRates_4 : decode cX7_areRates 4 = .ok (.iconst 1, 1) := by decide +kernel
theorem dX7_areRates_5 : decode cX7_areRates 5 = .ok (.bipush 20, 2) := by decide +kernel
theorem dX7_areRates_7 : decode cX7_areRates 7 = .ok (.invokestatic 60, 3) := by decide +kernel
theorem dX7_areRates_10 : decode cX7_areRates 10 = .ok (.ifCond .eq 20, 3) := by decide +kernel
theorem dX7_areRates_13 : decode cX7_areRates 13 = .ok (.iload_n 0, 1) := by decide +kernel
theorem dX7_areRates_14 : decode cX7_areRates 14 = .ok (.bipush 21, 2) := by decide +kernel
theorem dX7_areRates_16 : decode cX7_areRates 16 = .ok (.irem, 1) := by decide +kernel
theorem dX7_areRates_17 : decode cX7_areRates 17 = .ok (.iconst 1, 1) := by decide +kernel
theorem dX7_areRates_18 : decode cX7_areRates 18 = .ok (.bipush 20, 2) := by decide +kernel
theorem dX7_areRates_20 : decode cX7_areRates 20 = .ok (.invokestatic 60, 3) := by decide +kernel
theorem dX7_areRates_23 : decode cX7_areRates 23 = .ok (.ifCond .eq 7, 3) := by decide +kernel
theorem dX7_areRates_26 : decode cX7_areRates 26 = .ok (.iconst 1, 1) := by decide +kernel
theorem dX7_areRates_27 : decode cX7_areRates 27 = .ok (.goto 4, 3) := by decide +kernel
theorem dX7_areRates_30 : decode cX7_areRates 30 = .ok (.iconst 0, 1) := by decide +kernel
theorem dX7_areRates_31 : decode cX7_areRates 31 = .ok (.ireturn, 1) := by decide +kernel
theorem dX7_oneIf_0 : decode cX7_oneIf 0 = .ok (.iload_n 0, 1) := by decide +kernel
theorem dX7_oneIf_1 : decode cX7_oneIf 1 = .ok (.ifCond .eq 7, 3) := by decide +kernel
theorem dX7_oneIf_4 : decode cX7_oneIf 4 = .ok (.lconst 1, 1) := by decide +kernel
theorem dX7_oneIf_5 : decode cX7_oneIf 5 = .ok (.goto 4, 3) := by decide +kernel
theorem dX7_oneIf_8 : decode cX7_oneIf 8 = .ok (.lconst 0, 1) := by decide +kernel
theorem dX7_oneIf_9 : decode cX7_oneIf 9 = .ok (.lreturn, 1) := by decide +kernel
end
section
theorem dX8_init_0 : decode cX8_init 0 = .ok (.aload_n 0, 1) := by decide +kernel
theorem dX8_init_1 : decode cX8_init 1 = .ok (.invokespecial 1, 3) := by decide +kernel
theorem dX8_init_4 : decode cX8_init 4 = .ok (.aload_n 0, 1) := by decide +kernel
theorem dX8_init_5 : decode cX8_init 5 = .ok (.bipush 24, 2) := by decide +kernel
theorem dX8_init_7 : decode cX8_init 7 = .ok (.putfield 7, 3) := by decide +kernel
theorem dX8_init_10 : decode cX8_init 10 = .ok (.aload_n 0, 1) := by decide +kernel
theorem dX8_init_11 : decode cX8_init 11 = .ok (.bipush 36, 2) := by decide +kernel
theorem dX8_init_13 : decode cX8_init 13 = .ok (.newarray .boolean, 2) := by decide +kernel
theorem dX8_init_15 : decode cX8_init 15 = .ok (.putfield 13, 3) := by decide +kernel
theorem dX8_init_18 : decode cX8_init 18 = .ok (.aload_n 0, 1) := by decide +kernel
theorem dX8_init_19 : decode cX8_init 19 = .ok (.bipush 36, 2) := by decide +kernel
theorem dX8_init_21 : decode cX8_init 21 = .ok (.newarray .int, 2) := by decide +kernel
theorem dX8_init_23 : decode cX8_init 23 = .ok (.putfield 17, 3) := by decide +kernel
theorem dX8_init_26 : decode cX8_init 26 = .ok (.aload_n 0, 1) := by decide +kernel
theorem dX8_init_27 : decode cX8_init 27 = .ok (.iconst 4, 1) := by decide +kernel
theorem dX8_init_28 : decode cX8_init 28 = .ok (.newarray .int, 2) := by decide +kernel
theorem dX8_init_30 : decode cX8_init 30 = .ok (.putfield 21, 3) := by decide +kernel
theorem dX8_init_33 : decode cX8_init 33 = .ok (.aload_n 0, 1) := by decide +kernel
theorem dX8_init_34 : decode cX8_init 34 = .ok (.iconst 4, 1) := by decide +kernel
theorem dX8_init_35 : decode cX8_init 35 = .ok (.newarray .int, 2) := by decide +kernel
theorem dX8_init_37 : decode cX8_init 37 = .ok (.putfield 24, 3) := by decide +kernel
theorem dX8_init_40 : decode cX8_init 40 = .ok (.aload_n 0, 1) := by decide +kernel
theorem dX8_init_41 : decode cX8_init 41 = .ok (.sipush 144, 3) := by decide +kernel
theorem dX8_init_44 : decode cX8_init 44 = .ok (.newarray .int, 2) := by decide +kernel
theorem dX8_init_46 : decode cX8_init 46 = .ok (.putfield 27, 3) := by decide +kernel
theorem dX8_init_49 : decode cX8_init 49 = .ok (.aload_n 0, 1) := by decide +kernel
theorem dX8_init_50 : decode cX8_init 50 = .ok (.iconst 4, 1) := by decide +kernel
theorem dX8_init_51 : decode cX8_init 51 = .ok (.newarray .int, 2) := by decide +kernel
theorem dX8_init_53 : decode cX8_init 53 = .ok (.putfield 30, 3) := by decide +kernel
theorem dX8_init_56 : decode cX8_init 56 = .ok (.aload_n 0, 1) := by decide +kernel
theorem dX8_init_57 : decode cX8_init 57 = .ok (.iconst 4, 1) := by decide +kernel
theorem dX8_init_58 : decode cX8_init 58 = .ok (.newarray .int, 2) := by decide +kernel
theorem dX8_init_60 : decode cX8_init 60 = .ok (.putfield 33, 3) := by decide +kernel
theorem dX8_init_63 : decode cX8_init 63 = .ok (.aload_n 0, 1) := by decide +kernel
theorem dX8_init_64 : decode cX8_init 64 = .ok (.iconst 4, 1) := by decide +kernel
theorem dX8_init_65 : decode cX8_init 65 = .ok (.newarray .int, 2) := by decide +kernel
theorem dX8_init_67 : decode cX8_init 67 = .ok (.putfield 36, 3) := by decide +kernel
theorem dX8_init_70 : decode cX8_init 70 = .ok (.aload_n 0, 1) := by decide +kernel
theorem dX8_init_71 : decode cX8_init 71 = .ok (.iconst 4, 1) := by decide +kernel
theorem dX8_init_72 : decode cX8_init 72 = .ok (.newarray .int, 2) := by decide +kernel
theorem dX8_init_74 : decode cX8_init 74 = .ok (.putfield 39, 3) := by decide +kernel
theorem dX8_init_77 : decode cX8_init 77 = .ok (.aload_n 0, 1) := by decide +kernel
theorem dX8_init_78 : decode cX8_init 78 = .ok (.iconst 4, 1) := by decide +kernel
theorem dX8_init_79 : decode cX8_init 79 = .ok (.newarray .int, 2) := by decide +kernel
theorem dX8_init_81 : decode cX8_init 81 = .ok (.putfield 42, 3) := by decide +kernel
theorem dX8_init_84 : decode cX8_init 84 = .ok (.aload_n 0, 1) := by decide +kernel
theorem dX8_init_85 : decode cX8_init 85 = .ok (.iconst 4, 1) := by decide +kernel
theorem dX8_init_86 : decode cX8_init 86 = .ok (.newarray .int, 2) := by decide +kernel
theorem dX8_init_88 : decode cX8_init 88 = .ok (.putfield 45, 3) := by decide +kernel
theorem dX8_init_91 : decode cX8_init 91 = .ok (.aload_n 0, 1) := by decide +kernel
theorem dX8_init_92 : decode cX8_init 92 = .ok (.iconst 4, 1) := by decide +kernel
theorem dX8_init_93 : decode cX8_init 93 = .ok (.newarray .int, 2) := by decide +kernel
theorem dX8_init_95 : decode cX8_init 95 = .ok (.putfield 48, 3) := by decide +kernel
theorem dX8_init_98 : decode cX8_init 98 = .ok (.aload_n 0, 1) := by decide +kernel
theorem dX8_init_99 : decode cX8_init 99 = .ok (.iconst 4, 1) := by decide +kernel
theorem dX8_init_100 : decode cX8_init 100 = .ok (.newarray .int, 2) := by decide +kernel
theorem dX8_init_102 : decode cX8_init 102 = .ok (.putfield 51, 3) := by decide +kernel
theorem dX8_init_105 : decode cX8_init 105 = .ok (.aload_n 0, 1) := by decide +kernel
theorem dX8_init_106 : decode cX8_init 106 = .ok (.iconst 4, 1) := by decide +kernel
theorem dX8_init_107 : decode cX8_init 107 = .ok (.newarray .int, 2) := by decide +kernel
theorem dX8_init_109 : decode cX8_init 109 = .ok (.putfield 54, 3) := by decide +kernel
theorem dX8_init_112 : decode cX8_init 112 = .ok (.aload_n 0, 1) := by decide +kernel
theorem dX8_init_113 : decode cX8_init 113 = .ok (.sipush 144, 3) := by decide +kernel
theorem dX8_init_116 : decode cX8_init 116 = .ok (.newarray .int, 2) := by decide +kernel
theorem dX8_init_118 : decode cX8_init 118 = .ok (.putfield 57, 3) := by decide +kernel
theorem dX8_init_121 : decode cX8_init 121 = .ok (.aload_n 0, 1) := by decide +kernel
theorem dX8_init_122 : decode cX8_init 122 = .ok (.bipush 48, 2) := by decide +kernel
theorem dX8_init_124 : decode cX8_init 124 = .ok (.newarray .int, 2) := by decide +kernel
theorem dX8_init_126 : decode cX8_init 126 = .ok (.putfield 60, 3) := by decide +kernel
theorem dX8_init_129 : decode cX8_init 129 = .ok (.aload_n 0, 1) := by decide +kernel
theorem dX8_init_130 : decode cX8_init 130 = .ok (.bipush 36, 2) := by decide +kernel
theorem dX8_init_132 : decode cX8_init 132 = .ok (.newarray .int, 2) := by decide +kernel
theorem dX8_init_134 : decode cX8_init 134 = .ok (.putfield 63, 3) := by decide +kernel
theorem dX8_init_137 : decode cX8_init 137 = .ok (.aload_n 0, 1) := by decide +kernel
theorem dX8_init_138 : decode cX8_init 138 = .ok (.sipush 750, 3) := by decide +kernel
theorem dX8_init_141 : decode cX8_init 141 = .ok (.newarray .long, 2) := by decide +kernel
theorem dX8_init_143 : decode cX8_init 143 = .ok (.putfield 66, 3) := by decide +kernel
theorem dX8_init_146 : decode cX8_init 146 = .ok (.aload_n 0, 1) := by decide +kernel
theorem dX8_init_147 : decode cX8_init 147 = .ok (.bipush 36, 2) := by decide +kernel
theorem dX8_init_149 : decode cX8_init 149 = .ok (.newarray .int, 2) := by decide +kernel
theorem dX8_init_151 : decode cX8_init 151 = .ok (.putfield 70, 3) := by decide +kernel
theorem dX8_init_154 : decode cX8_init 154 = .ok (.aload_n 0, 1) := by decide +kernel
theorem dX8_init_155 : decode cX8_init 155 = .ok (.sipush 2257, 3) := by decide +kernel
theorem dX8_init_158 : decode cX8_init 158 = .ok (.newarray .long, 2) := by decide +kernel
theorem dX8_init_160 : decode cX8_init 160 = .ok (.putfield 73, 3) := by decide +kernel
theorem dX8_init_163 : decode cX8_init 163 = .ok (.aload_n 0, 1) := by decide +kernel
theorem dX8_init_164 : decode cX8_init 164 = .ok (.sipush 2257, 3) := by decide +kernel
theorem dX8_init_167 : decode cX8_init 167 = .ok (.newarray .long, 2) := by decide +kernel
theorem dX8_init_169 : decode cX8_init 169 = .ok (.putfield 76, 3) := by decide +kernel
theorem dX8_init_172 : decode cX8_init 172 = .ok (.iconst 0, 1) := by decide +kernel
theorem dX8_init_173 : decode cX8_init 173 = .ok (.istore_n 1, 1) := by decide +kernel
theorem dX8_init_174 : decode cX8_init 174 = .ok (.iload_n 1, 1) := by decide +kernel
theorem dX8_init_175 : decode cX8_init 175 = .ok (.iconst 4, 1) := by decide +kernel
theorem dX8_init_176 : decode cX8_init 176 = .ok (.if_icmp .ge 23, 3) := by decide +kernel
theorem dX8_init_179 : decode cX8_init 179 = .ok (.aload_n 0, 1) := by decide +kernel
theorem dX8_init_180 : decode cX8_init 180 = .ok (.getfield 21, 3) := by decide +kernel
theorem dX8_init_183 : decode cX8_init 183 = .ok (.iload_n 1, 1) := by decide +kernel
theorem dX8_init_184 : decode cX8_init 184 = .ok (.iconst (-1), 1) := by decide +kernel
theorem dX8_init_185 : decode cX8_init 185 = .ok (.iastore, 1) := by decide +kernel
theorem dX8_init_186 : decode cX8_init 186 = .ok (.aload_n 0, 1) := by decide +kernel
theorem dX8_init_187 : decode cX8_init 187 = .ok (.getfield 30, 3) := by decide +kernel
theorem dX8_init_190 : decode cX8_init 190 = .ok (.iload_n 1, 1) := by decide +kernel
theorem dX8_init_191 : decode cX8_init 191 = .ok (.iconst (-1), 1) := by decide +kernel
theorem dX8_init_192 : decode cX8_init 192 = .ok (.iastore, 1) := by decide +kernel
theorem dX8_init_193 : decode cX8_init 193 = .ok (.iinc 1 1, 3) := by decide +kernel
theorem dX8_init_196 : decode cX8_init 196 = .ok (.goto (-22), 3) := by decide +kernel
theorem dX8_init_199 : decode cX8_init 199 = .ok (.iconst 0, 1) := by decide +kernel
theorem dX8_init_200 : decode cX8_init 200 = .ok (.istore_n 1, 1) := by decide +kernel
theorem dX8_init_201 : decode cX8_init 201 = .ok (.iload_n 1, 1) := by decide +kernel
theorem dX8_init_202 : decode cX8_init 202 = .ok (.bipush 36, 2) := by decide +kernel
theorem dX8_init_204 : decode cX8_init 204 = .ok (.if_icmp .ge 18, 3) := by decide +kernel
theorem dX8_init_207 : decode cX8_init 207 = .ok (.aload_n 0, 1) := by decide +kernel
theorem dX8_init_208 : decode cX8_init 208 = .ok (.getfield 63, 3) := by decide +kernel
theorem dX8_init_211 : decode cX8_init 211 = .ok (.iload_n 1, 1) := by decide +kernel
theorem dX8_init_212 : decode cX8_init 212 = .ok (.sipush (-1001), 3) := by decide +kernel
theorem dX8_init_215 : decode cX8_init 215 = .ok (.iastore, 1) := by decide +kernel
theorem dX8_init_216 : decode cX8_init 216 = .ok (.iinc 1 1, 3) := by decide +kernel
theorem dX8_init_219 : decode cX8_init 219 = .ok (.goto (-18), 3) := by decide +kernel
theorem dX8_init_222 : decode cX8_init 222 = .ok (.return_, 1) := by decide +kernel
theorem dX8_isIn_0 : decode cX8_isIn 0 = .ok (.lload_n 0, 1) := by decide +kernel
theorem dX8_isIn_1 : decode cX8_isIn 1 = .ok (.lload_n 2, 1) := by decide +kernel
theorem dX8_isIn_2 : decode cX8_isIn 2 = .ok (.lcmp, 1) := by decide +kernel
theorem dX8_isIn_3 : decode cX8_isIn 3 = .ok (.ifCond .lt 14, 3) := by decide +kernel
theorem dX8_isIn_6 : decode cX8_isIn 6 = .ok (.lload_n 0, 1) := by decide +kernel
theorem dX8_isIn_7 : decode cX8_isIn 7 = .ok (.lload 4, 2) := by decide +kernel
theorem dX8_isIn_9 : decode cX8_isIn 9 = .ok (.lcmp, 1) := by decide +kernel
theorem dX8_isIn_10 : decode cX8_isIn 10 = .ok (.ifCond .gt 7, 3) := by decide +kernel
theorem dX8_isIn_13 : decode cX8_isIn 13 = .ok (.iconst 1, 1) := by decide +kernel
theorem dX8_isIn_14 : decode cX8_isIn 14 = .ok (.goto 4, 3) := by decide +kernel
theorem dX8_isIn_17 : decode cX8_isIn 17 = .ok (.iconst 0, 1) := by decide +kernel
theorem dX8_isIn_18 : decode cX8_isIn 18 = .ok (.ireturn, 1) := by decide +kernel
theorem dX8_isWorld_0 : decode cX8_isWorld 0 = .ok (.iload_n 0, 1) := by decide +kernel
theorem dX8_isWorld_1 : decode cX8_isWorld 1 = .ok (.i2l, 1) := by decide +kernel
theorem dX8_isWorld_2 : decode cX8_isWorld 2 = .ok (.lconst 0, 1) := by decide +kernel
theorem dX8_isWorld_3 : decode cX8_isWorld 3 = .ok (.ldc2_w 79, 3) := by decide +kernel
theorem dX8_isWorld_6 : decode cX8_isWorld 6 = .ok (.invokestatic 81, 3) := by decide +kernel
theorem dX8_isWorld_9 : decode cX8_isWorld 9 = .ok (.ireturn, 1) := by decide +kernel
theorem dX8_isStore_0 : decode cX8_isStore 0 = .ok (.iload_n 0, 1) := by decide +kernel
theorem dX8_isStore_1 : decode cX8_isStore 1 = .ok (.i2l, 1) := by decide +kernel
theorem dX8_isStore_2 : decode cX8_isStore 2 = .ok (.lconst 0, 1) := by decide +kernel
theorem dX8_isStore_3 : decode cX8_isStore 3 = .ok (.ldc2_w 79, 3) := by decide +kernel
theorem dX8_isStore_6 : decode cX8_isStore 6 = .ok (.invokestatic 81, 3) := by decide +kernel
theorem dX8_isStore_9 : decode cX8_isStore 9 = .ok (.ireturn, 1) := by decide +kernel
theorem dX8_isStep_0 : decode cX8_isStep 0 = .ok (.iload_n 1, 1) := by decide +kernel
theorem dX8_isStep_1 : decode cX8_isStep 1 = .ok (.i2l, 1) := by decide +kernel
theorem dX8_isStep_2 : decode cX8_isStep 2 = .ok (.lconst 0, 1) := by decide +kernel
theorem dX8_isStep_3 : decode cX8_isStep 3 = .ok (.aload_n 0, 1) := by decide +kernel
theorem dX8_isStep_4 : decode cX8_isStep 4 = .ok (.getfield 7, 3) := by decide +kernel
theorem dX8_isStep_7 : decode cX8_isStep 7 = .ok (.iconst 1, 1) := by decide +kernel
theorem dX8_isStep_8 : decode cX8_isStep 8 = .ok (.isub, 1) := by decide +kernel
theorem dX8_isStep_9 : decode cX8_isStep 9 = .ok (.i2l, 1) := by decide +kernel
theorem dX8_isStep_10 : decode cX8_isStep 10 = .ok (.invokestatic 81, 3) := by decide +kernel
theorem dX8_isStep_13 : decode cX8_isStep 13 = .ok (.ireturn, 1) := by decide +kernel
theorem dX8_cut_0 : decode cX8_cut 0 = .ok (.iload_n 0, 1) := by decide +kernel
theorem dX8_cut_1 : decode cX8_cut 1 = .ok (.iload_n 1, 1) := by decide +kernel
theorem dX8_cut_2 : decode cX8_cut 2 = .ok (.idiv, 1) := by decide +kernel
theorem dX8_cut_3 : decode cX8_cut 3 = .ok (.istore_n 2, 1) := by decide +kernel
theorem dX8_cut_4 : decode cX8_cut 4 = .ok (.iload_n 0, 1) := by decide +kernel
theorem dX8_cut_5 : decode cX8_cut 5 = .ok (.iload_n 1, 1) := by decide +kernel
theorem dX8_cut_6 : decode cX8_cut 6 = .ok (.irem, 1) := by decide +kernel
theorem dX8_cut_7 : decode cX8_cut 7 = .ok (.ifCond .eq 13, 3) := by decide +kernel
theorem dX8_cut_10 : decode cX8_cut 10 = .ok (.iload_n 0, 1) := by decide +kernel
theorem dX8_cut_11 : decode cX8_cut 11 = .ok (.ifCond .ge 9, 3) := by decide +kernel
theorem dX8_cut_14 : decode cX8_cut 14 = .ok (.iload_n 2, 1) := by decide +kernel
theorem dX8_cut_15 : decode cX8_cut 15 = .ok (.iconst 1, 1) := by decide +kernel
theorem dX8_cut_16 : decode cX8_cut 16 = .ok (.isub, 1) := by decide +kernel
theorem dX8_cut_17 : decode cX8_cut 17 = .ok (.goto 4, 3) := by decide +kernel
theorem dX8_cut_20 : decode cX8_cut 20 = .ok (.iload_n 2, 1) := by decide +kernel
theorem dX8_cut_21 : decode cX8_cut 21 = .ok (.ireturn, 1) := by decide +kernel
theorem dX8_room_0 : decode cX8_room 0 = .ok (.aload_n 0, 1) := by decide +kernel
theorem dX8_room_1 : decode cX8_room 1 = .ok (.getfield 13, 3) := by decide +kernel
theorem dX8_room_4 : decode cX8_room 4 = .ok (.iload_n 1, 1) := by decide +kernel
theorem dX8_room_5 : decode cX8_room 5 = .ok (.baload, 1) := by decide +kernel
theorem dX8_room_6 : decode cX8_room 6 = .ok (.ifCond .eq 7, 3) := by decide +kernel
theorem dX8_room_9 : decode cX8_room 9 = .ok (.iconst 0, 1) := by decide +kernel
theorem dX8_room_10 : decode cX8_room 10 = .ok (.goto 9, 3) := by decide +kernel
theorem dX8_room_13 : decode cX8_room 13 = .ok (.aload_n 0, 1) := by decide +kernel
theorem dX8_room_14 : decode cX8_room 14 = .ok (.getfield 17, 3) := by decide +kernel
theorem dX8_room_17 : decode cX8_room 17 = .ok (.iload_n 1, 1) := by decide +kernel
theorem dX8_room_18 : decode cX8_room 18 = .ok (.iaload, 1) := by decide +kernel
theorem dX8_room_19 : decode cX8_room 19 = .ok (.ireturn, 1) := by decide +kernel
theorem dX8_time_0 : decode cX8_time 0 = .ok (.iload_n 1, 1) := by decide +kernel
theorem dX8_time_1 : decode cX8_time 1 = .ok (.i2l, 1) := by decide +kernel
theorem dX8_time_2 : decode cX8_time 2 = .ok (.lconst 1, 1) := by decide +kernel
theorem dX8_time_3 : decode cX8_time 3 = .ok (.ldc2_w 85, 3) := by decide +kernel
theorem dX8_time_6 : decode cX8_time 6 = .ok (.invokestatic 81, 3) := by decide +kernel
theorem dX8_time_9 : decode cX8_time 9 = .ok (.ifCond .ne 7, 3) := by decide +kernel
theorem dX8_time_12 : decode cX8_time 12 = .ok (.ldc2_w 87, 3) := by decide +kernel
theorem dX8_time_15 : decode cX8_time 15 = .ok (.lreturn, 1) := by decide +kernel
theorem dX8_time_16 : decode cX8_time 16 = .ok (.aload_n 0, 1) := by decide +kernel
theorem dX8_time_17 : decode cX8_time 17 = .ok (.getfield 89, 3) := by decide +kernel
theorem dX8_time_20 : decode cX8_time 20 = .ok (.istore_n 2, 1) := by decide +kernel
theorem dX8_time_21 : decode cX8_time 21 = .ok (.aload_n 0, 1) := by decide +kernel
theorem dX8_time_22 : decode cX8_time 22 = .ok (.iload_n 1, 1) := by decide +kernel
theorem dX8_time_23 : decode cX8_time 23 = .ok (.putfield 7, 3) := by decide +kernel
theorem dX8_time_26 : decode cX8_time 26 = .ok (.aload_n 0, 1) := by decide +kernel
theorem dX8_time_27 : decode cX8_time 27 = .ok (.iconst 0, 1) := by decide +kernel
theorem dX8_time_28 : decode cX8_time 28 = .ok (.putfield 89, 3) := by decide +kernel
theorem dX8_time_31 : decode cX8_time 31 = .ok (.iconst 0, 1) := by decide +kernel
theorem dX8_time_32 : decode cX8_time 32 = .ok (.istore_n 3, 1) := by decide +kernel
theorem dX8_time_33 : decode cX8_time 33 = .ok (.iload_n 3, 1) := by decide +kernel
theorem dX8_time_34 : decode cX8_time 34 = .ok (.sipush 144, 3) := by decide +kernel
theorem dX8_time_37 : decode cX8_time 37 = .ok (.if_icmp .ge 16, 3) := by decide +kernel
theorem dX8_time_40 : decode cX8_time 40 = .ok (.aload_n 0, 1) := by decide +kernel
theorem dX8_time_41 : decode cX8_time 41 = .ok (.getfield 57, 3) := by decide +kernel
theorem dX8_time_44 : decode cX8_time 44 = .ok (.iload_n 3, 1) := by decide +kernel
theorem dX8_time_45 : decode cX8_time 45 = .ok (.iconst 0, 1) := by decide +kernel
theorem dX8_time_46 : decode cX8_time 46 = .ok (.iastore, 1) := by decide +kernel
theorem dX8_time_47 : decode cX8_time 47 = .ok (.iinc 3 1, 3) := by decide +kernel
theorem dX8_time_50 : decode cX8_time 50 = .ok (.goto (-17), 3) := by decide +kernel
theorem dX8_time_53 : decode cX8_time 53 = .ok (.iload_n 2, 1) := by decide +kernel
theorem dX8_time_54 : decode cX8_time 54 = .ok (.i2l, 1) := by decide +kernel
theorem dX8_time_55 : decode cX8_time 55 = .ok (.lreturn, 1) := by decide +kernel
theorem dX8_dark_0 : decode cX8_dark 0 = .ok (.iload_n 1, 1) := by decide +kernel
theorem dX8_dark_1 : decode cX8_dark 1 = .ok (.i2l, 1) := by decide +kernel
theorem dX8_dark_2 : decode cX8_dark 2 = .ok (.lconst 0, 1) := by decide +kernel
theorem dX8_dark_3 : decode cX8_dark 3 = .ok (.ldc2_w 92, 3) := by decide +kernel
theorem dX8_dark_6 : decode cX8_dark 6 = .ok (.invokestatic 81, 3) := by decide +kernel
theorem dX8_dark_9 : decode cX8_dark 9 = .ok (.ifCond .eq 13, 3) := by decide +kernel
theorem dX8_dark_12 : decode cX8_dark 12 = .ok (.iload_n 2, 1) := by decide +kernel
theorem dX8_dark_13 : decode cX8_dark 13 = .ok (.i2l, 1) := by decide +kernel
theorem dX8_dark_14 : decode cX8_dark 14 = .ok (.lconst 0, 1) := by decide +kernel
theorem dX8_dark_15 : decode cX8_dark 15 = .ok (.lconst 1, 1) := by decide +kernel
theorem dX8_dark_16 : decode cX8_dark 16 = .ok (.invokestatic 81, 3) := by decide +kernel
theorem dX8_dark_19 : decode cX8_dark 19 = .ok (.ifCond .ne 7, 3) := by decide +kernel
theorem dX8_dark_22 : decode cX8_dark 22 = .ok (.ldc2_w 87, 3) := by decide +kernel
theorem dX8_dark_25 : decode cX8_dark 25 = .ok (.lreturn, 1) := by decide +kernel
theorem dX8_dark_26 : decode cX8_dark 26 = .ok (.aload_n 0, 1) := by decide +kernel
theorem dX8_dark_27 : decode cX8_dark 27 = .ok (.getfield 13, 3) := by decide +kernel
theorem dX8_dark_30 : decode cX8_dark 30 = .ok (.iload_n 1, 1) := by decide +kernel
theorem dX8_dark_31 : decode cX8_dark 31 = .ok (.baload, 1) := by decide +kernel
theorem dX8_dark_32 : decode cX8_dark 32 = .ok (.istore_n 3, 1) := by decide +kernel
theorem dX8_dark_33 : decode cX8_dark 33 = .ok (.aload_n 0, 1) := by decide +kernel
theorem dX8_dark_34 : decode cX8_dark 34 = .ok (.getfield 13, 3) := by decide +kernel
theorem dX8_dark_37 : decode cX8_dark 37 = .ok (.iload_n 1, 1) := by decide +kernel
theorem dX8_dark_38 : decode cX8_dark 38 = .ok (.iload_n 2, 1) := by decide +kernel
theorem dX8_dark_39 : decode cX8_dark 39 = .ok (.iconst 1, 1) := by decide +kernel
theorem dX8_dark_40 : decode cX8_dark 40 = .ok (.if_icmp .ne 7, 3) := by decide +kernel
theorem dX8_dark_43 : decode cX8_dark 43 = .ok (.iconst 1, 1) := by decide +kernel
theorem dX8_dark_44 : decode cX8_dark 44 = .ok (.goto 4, 3) := by decide +kernel
theorem dX8_dark_47 : decode cX8_dark 47 = .ok (.iconst 0, 1) := by decide +kernel
theorem dX8_dark_48 : decode cX8_dark 48 = .ok (.bastore, 1) := by decide +kernel
theorem dX8_dark_49 : decode cX8_dark 49 = .ok (.iload_n 3, 1) := by decide +kernel
theorem dX8_dark_50 : decode cX8_dark 50 = .ok (.ifCond .eq 7, 3) := by decide +kernel
theorem dX8_dark_53 : decode cX8_dark 53 = .ok (.lconst 1, 1) := by decide +kernel
theorem dX8_dark_54 : decode cX8_dark 54 = .ok (.goto 4, 3) := by decide +kernel
theorem dX8_dark_57 : decode cX8_dark 57 = .ok (.lconst 0, 1) := by decide +kernel
theorem dX8_dark_58 : decode cX8_dark 58 = .ok (.lreturn, 1) := by decide +kernel
theorem dX8_keep_0 : decode cX8_keep 0 = .ok (.iload_n 1, 1) := by decide +kernel
theorem dX8_keep_1 : decode cX8_keep 1 = .ok (.i2l, 1) := by decide +kernel
theorem dX8_keep_2 : decode cX8_keep 2 = .ok (.lconst 0, 1) := by decide +kernel
theorem dX8_keep_3 : decode cX8_keep 3 = .ok (.ldc2_w 92, 3) := by decide +kernel
theorem dX8_keep_6 : decode cX8_keep 6 = .ok (.invokestatic 81, 3) := by decide +kernel
theorem dX8_keep_9 : decode cX8_keep 9 = .ok (.ifCond .eq 15, 3) := by decide +kernel
theorem dX8_keep_12 : decode cX8_keep 12 = .ok (.iload_n 2, 1) := by decide +kernel
theorem dX8_keep_13 : decode cX8_keep 13 = .ok (.i2l, 1) := by decide +kernel
theorem dX8_keep_14 : decode cX8_keep 14 = .ok (.lconst 0, 1) := by decide +kernel
theorem dX8_keep_15 : decode cX8_keep 15 = .ok (.ldc2_w 94, 3) := by decide +kernel
theorem dX8_keep_18 : decode cX8_keep 18 = .ok (.invokestatic 81, 3) := by decide +kernel
theorem dX8_keep_21 : decode cX8_keep 21 = .ok (.ifCond .ne 7, 3) := by decide +kernel
theorem dX8_keep_24 : decode cX8_keep 24 = .ok (.ldc2_w 87, 3) := by decide +kernel
theorem dX8_keep_27 : decode cX8_keep 27 = .ok (.lreturn, 1) := by decide +kernel
theorem dX8_keep_28 : decode cX8_keep 28 = .ok (.aload_n 0, 1) := by decide +kernel
theorem dX8_keep_29 : decode cX8_keep 29 = .ok (.getfield 17, 3) := by decide +kernel
theorem dX8_keep_32 : decode cX8_keep 32 = .ok (.iload_n 1, 1) := by decide +kernel
theorem dX8_keep_33 : decode cX8_keep 33 = .ok (.iaload, 1) := by decide +kernel
theorem dX8_keep_34 : decode cX8_keep 34 = .ok (.i2l, 1) := by decide +kernel
theorem dX8_keep_35 : decode cX8_keep 35 = .ok (.lstore_n 3, 1) := by decide +kernel
theorem dX8_keep_36 : decode cX8_keep 36 = .ok (.aload_n 0, 1) := by decide +kernel
theorem dX8_keep_37 : decode cX8_keep 37 = .ok (.getfield 17, 3) := by decide +kernel
theorem dX8_keep_40 : decode cX8_keep 40 = .ok (.iload_n 1, 1) := by decide +kernel
theorem dX8_keep_41 : decode cX8_keep 41 = .ok (.iload_n 2, 1) := by decide +kernel
theorem dX8_keep_42 : decode cX8_keep 42 = .ok (.iastore, 1) := by decide +kernel
theorem dX8_keep_43 : decode cX8_keep 43 = .ok (.lload_n 3, 1) := by decide +kernel
theorem dX8_keep_44 : decode cX8_keep 44 = .ok (.lreturn, 1) := by decide +kernel
theorem dX8_world_0 : decode cX8_world 0 = .ok (.iload_n 1, 1) := by decide +kernel
theorem dX8_world_1 : decode cX8_world 1 = .ok (.invokestatic 96, 3) := by decide +kernel
theorem dX8_world_4 : decode cX8_world 4 = .ok (.ifCond .eq 21, 3) := by decide +kernel
theorem dX8_world_7 : decode cX8_world 7 = .ok (.iload_n 2, 1) := by decide +kernel
theorem dX8_world_8 : decode cX8_world 8 = .ok (.i2l, 1) := by decide +kernel
theorem dX8_world_9 : decode cX8_world 9 = .ok (.lconst 0, 1) := by decide +kernel
theorem dX8_world_10 : decode cX8_world 10 = .ok (.ldc2_w 100, 3) := by decide +kernel
theorem dX8_world_13 : decode cX8_world 13 = .ok (.invokestatic 81, 3) := by decide +kernel
theorem dX8_world_16 : decode cX8_world 16 = .ok (.ifCond .eq 9, 3) := by decide +kernel
theorem dX8_world_19 : decode cX8_world 19 = .ok (.iload_n 3, 1) := by decide +kernel
theorem dX8_world_20 : decode cX8_world 20 = .ok (.bipush 36, 2) := by decide +kernel
theorem dX8_world_22 : decode cX8_world 22 = .ok (.if_icmp .le 7, 3) := by decide +kernel
theorem dX8_world_25 : decode cX8_world 25 = .ok (.ldc2_w 87, 3) := by decide +kernel
theorem dX8_world_28 : decode cX8_world 28 = .ok (.lreturn, 1) := by decide +kernel
theorem dX8_world_29 : decode cX8_world 29 = .ok (.iload_n 3, 1) := by decide +kernel
theorem dX8_world_30 : decode cX8_world 30 = .ok (.ifCond .ge 7, 3) := by decide +kernel
theorem dX8_world_33 : decode cX8_world 33 = .ok (.ldc2_w 102, 3) := by decide +kernel
theorem dX8_world_36 : decode cX8_world 36 = .ok (.lreturn, 1) := by decide +kernel
theorem dX8_world_37 : decode cX8_world 37 = .ok (.aload_n 0, 1) := by decide +kernel
theorem dX8_world_38 : decode cX8_world 38 = .ok (.getfield 21, 3) := by decide +kernel
theorem dX8_world_41 : decode cX8_world 41 = .ok (.iload_n 1, 1) := by decide +kernel
theorem dX8_world_42 : decode cX8_world 42 = .ok (.iload_n 2, 1) := by decide +kernel
theorem dX8_world_43 : decode cX8_world 43 = .ok (.iastore, 1) := by decide +kernel
theorem dX8_world_44 : decode cX8_world 44 = .ok (.aload_n 0, 1) := by decide +kernel
theorem dX8_world_45 : decode cX8_world 45 = .ok (.getfield 24, 3) := by decide +kernel
theorem dX8_world_48 : decode cX8_world 48 = .ok (.iload_n 1, 1) := by decide +kernel
theorem dX8_world_49 : decode cX8_world 49 = .ok (.iload_n 3, 1) := by decide +kernel
theorem dX8_world_50 : decode cX8_world 50 = .ok (.iastore, 1) := by decide +kernel
theorem dX8_world_51 : decode cX8_world 51 = .ok (.iconst 0, 1) := by decide +kernel
theorem dX8_world_52 : decode cX8_world 52 = .ok (.istore 4, 2) := by decide +kernel
theorem dX8_world_54 : decode cX8_world 54 = .ok (.iload 4, 2) := by decide +kernel
theorem dX8_world_56 : decode cX8_world 56 = .ok (.bipush 36, 2) := by decide +kernel
theorem dX8_world_58 : decode cX8_world 58 = .ok (.if_icmp .ge 22, 3) := by decide +kernel
theorem dX8_world_61 : decode cX8_world 61 = .ok (.aload_n 0, 1) := by decide +kernel
theorem dX8_world_62 : decode cX8_world 62 = .ok (.getfield 27, 3) := by decide +kernel
theorem dX8_world_65 : decode cX8_world 65 = .ok (.bipush 36, 2) := by decide +kernel
theorem dX8_world_67 : decode cX8_world 67 = .ok (.iload_n 1, 1) := by decide +kernel
theorem dX8_world_68 : decode cX8_world 68 = .ok (.imul, 1) := by decide +kernel
theorem dX8_world_69 : decode cX8_world 69 = .ok (.iload 4, 2) := by decide +kernel
theorem dX8_world_71 : decode cX8_world 71 = .ok (.iadd, 1) := by decide +kernel
theorem dX8_world_72 : decode cX8_world 72 = .ok (.iconst 0, 1) := by decide +kernel
theorem dX8_world_73 : decode cX8_world 73 = .ok (.iastore, 1) := by decide +kernel
theorem dX8_world_74 : decode cX8_world 74 = .ok (.iinc 4 1, 3) := by decide +kernel
theorem dX8_world_77 : decode cX8_world 77 = .ok (.goto (-23), 3) := by decide +kernel
theorem dX8_world_80 : decode cX8_world 80 = .ok (.iload_n 3, 1) := by decide +kernel
theorem dX8_world_81 : decode cX8_world 81 = .ok (.i2l, 1) := by decide +kernel
theorem dX8_world_82 : decode cX8_world 82 = .ok (.lreturn, 1) := by decide +kernel
theorem dX8_lose_0 : decode cX8_lose 0 = .ok (.iload_n 1, 1) := by decide +kernel
theorem dX8_lose_1 : decode cX8_lose 1 = .ok (.invokestatic 96, 3) := by decide +kernel
theorem dX8_lose_4 : decode cX8_lose 4 = .ok (.ifCond .ne 7, 3) := by decide +kernel
theorem dX8_lose_7 : decode cX8_lose 7 = .ok (.ldc2_w 87, 3) := by decide +kernel
theorem dX8_lose_10 : decode cX8_lose 10 = .ok (.lreturn, 1) := by decide +kernel
theorem dX8_lose_11 : decode cX8_lose 11 = .ok (.aload_n 0, 1) := by decide +kernel
theorem dX8_lose_12 : decode cX8_lose 12 = .ok (.getfield 21, 3) := by decide +kernel
theorem dX8_lose_15 : decode cX8_lose 15 = .ok (.iload_n 1, 1) := by decide +kernel
theorem dX8_lose_16 : decode cX8_lose 16 = .ok (.iaload, 1) := by decide +kernel
theorem dX8_lose_17 : decode cX8_lose 17 = .ok (.ifCond .ge 7, 3) := by decide +kernel
theorem dX8_lose_20 : decode cX8_lose 20 = .ok (.ldc2_w 104, 3) := by decide +kernel
theorem dX8_lose_23 : decode cX8_lose 23 = .ok (.lreturn, 1) := by decide +kernel
theorem dX8_lose_24 : decode cX8_lose 24 = .ok (.aload_n 0, 1) := by decide +kernel
theorem dX8_lose_25 : decode cX8_lose 25 = .ok (.getfield 24, 3) := by decide +kernel
theorem dX8_lose_28 : decode cX8_lose 28 = .ok (.iload_n 1, 1) := by decide +kernel
theorem dX8_lose_29 : decode cX8_lose 29 = .ok (.iaload, 1) := by decide +kernel
theorem dX8_lose_30 : decode cX8_lose 30 = .ok (.i2l, 1) := by decide +kernel
theorem dX8_lose_31 : decode cX8_lose 31 = .ok (.lstore_n 2, 1) := by decide +kernel
theorem dX8_lose_32 : decode cX8_lose 32 = .ok (.aload_n 0, 1) := by decide +kernel
theorem dX8_lose_33 : decode cX8_lose 33 = .ok (.getfield 21, 3) := by decide +kernel
theorem dX8_lose_36 : decode cX8_lose 36 = .ok (.iload_n 1, 1) := by decide +kernel
theorem dX8_lose_37 : decode cX8_lose 37 = .ok (.iconst (-1), 1) := by decide +kernel
theorem dX8_lose_38 : decode cX8_lose 38 = .ok (.iastore, 1) := by decide +kernel
theorem dX8_lose_39 : decode cX8_lose 39 = .ok (.aload_n 0, 1) := by decide +kernel
theorem dX8_lose_40 : decode cX8_lose 40 = .ok (.getfield 24, 3) := by decide +kernel
theorem dX8_lose_43 : decode cX8_lose 43 = .ok (.iload_n 1, 1) := by decide +kernel
theorem dX8_lose_44 : decode cX8_lose 44 = .ok (.iconst 0, 1) := by decide +kernel
theorem dX8_lose_45 : decode cX8_lose 45 = .ok (.iastore, 1) := by decide +kernel
theorem dX8_lose_46 : decode cX8_lose 46 = .ok (.lload_n 2, 1) := by decide +kernel
theorem dX8_lose_47 : decode cX8_lose 47 = .ok (.lreturn, 1) := by decide +kernel
theorem dX8_price_0 : decode cX8_price 0 = .ok (.iload_n 1, 1) := by decide +kernel
theorem dX8_price_1 : decode cX8_price 1 = .ok (.invokestatic 96, 3) := by decide +kernel
theorem dX8_price_4 : decode cX8_price 4 = .ok (.ifCond .ne 7, 3) := by decide +kernel
theorem dX8_price_7 : decode cX8_price 7 = .ok (.ldc2_w 87, 3) := by decide +kernel
theorem dX8_price_10 : decode cX8_price 10 = .ok (.lreturn, 1) := by decide +kernel
theorem dX8_price_11 : decode cX8_price 11 = .ok (.aload_n 0, 1) := by decide +kernel
theorem dX8_price_12 : decode cX8_price 12 = .ok (.getfield 21, 3) := by decide +kernel
theorem dX8_price_15 : decode cX8_price 15 = .ok (.iload_n 1, 1) := by decide +kernel
theorem dX8_price_16 : decode cX8_price 16 = .ok (.iaload, 1) := by decide +kernel
theorem dX8_price_17 : decode cX8_price 17 = .ok (.ifCond .ge 7, 3) := by decide +kernel
theorem dX8_price_20 : decode cX8_price 20 = .ok (.ldc2_w 104, 3) := by decide +kernel
theorem dX8_price_23 : decode cX8_price 23 = .ok (.lreturn, 1) := by decide +kernel
theorem dX8_price_24 : decode cX8_price 24 = .ok (.iload_n 2, 1) := by decide +kernel
theorem dX8_price_25 : decode cX8_price 25 = .ok (.i2l, 1) := by decide +kernel
theorem dX8_price_26 : decode cX8_price 26 = .ok (.lconst 0, 1) := by decide +kernel
theorem dX8_price_27 : decode cX8_price 27 = .ok (.aload_n 0, 1) := by decide +kernel
theorem dX8_price_28 : decode cX8_price 28 = .ok (.getfield 24, 3) := by decide +kernel
theorem dX8_price_31 : decode cX8_price 31 = .ok (.iload_n 1, 1) := by decide +kernel
theorem dX8_price_32 : decode cX8_price 32 = .ok (.iaload, 1) := by decide +kernel
theorem dX8_price_33 : decode cX8_price 33 = .ok (.iconst 1, 1) := by decide +kernel
theorem dX8_price_34 : decode cX8_price 34 = .ok (.isub, 1) := by decide +kernel
theorem dX8_price_35 : decode cX8_price 35 = .ok (.i2l, 1) := by decide +kernel
theorem dX8_price_36 : decode cX8_price 36 = .ok (.invokestatic 81, 3) := by decide +kernel
theorem dX8_price_39 : decode cX8_price 39 = .ok (.ifCond .ne 7, 3) := by decide +kernel
theorem dX8_price_42 : decode cX8_price 42 = .ok (.ldc2_w 106, 3) := by decide +kernel
theorem dX8_price_45 : decode cX8_price 45 = .ok (.lreturn, 1) := by decide +kernel
theorem dX8_price_46 : decode cX8_price 46 = .ok (.aload_n 0, 1) := by decide +kernel
theorem dX8_price_47 : decode cX8_price 47 = .ok (.getfield 21, 3) := by decide +kernel
theorem dX8_price_50 : decode cX8_price 50 = .ok (.iload_n 1, 1) := by decide +kernel
theorem dX8_price_51 : decode cX8_price 51 = .ok (.iaload, 1) := by decide +kernel
theorem dX8_price_52 : decode cX8_price 52 = .ok (.ifCond .ne 8, 3) := by decide +kernel
theorem dX8_price_55 : decode cX8_price 55 = .ok (.bipush 100, 2) := by decide +kernel
theorem dX8_price_57 : decode cX8_price 57 = .ok (.goto 22, 3) := by decide +kernel
theorem dX8_price_60 : decode cX8_price 60 = .ok (.aload_n 0, 1) := by decide +kernel
theorem dX8_price_61 : decode cX8_price 61 = .ok (.getfield 21, 3) := by decide +kernel
theorem dX8_price_64 : decode cX8_price 64 = .ok (.iload_n 1, 1) := by decide +kernel
theorem dX8_price_65 : decode cX8_price 65 = .ok (.iaload, 1) := by decide +kernel
theorem dX8_price_66 : decode cX8_price 66 = .ok (.iconst 1, 1) := by decide +kernel
theorem dX8_price_67 : decode cX8_price 67 = .ok (.if_icmp .ne 9, 3) := by decide +kernel
theorem dX8_price_70 : decode cX8_price 70 = .ok (.sipush 1000, 3) := by decide +kernel
theorem dX8_price_73 : decode cX8_price 73 = .ok (.goto 6, 3) := by decide +kernel
theorem dX8_price_76 : decode cX8_price 76 = .ok (.sipush 10000, 3) := by decide +kernel
theorem dX8_price_79 : decode cX8_price 79 = .ok (.istore 4, 2) := by decide +kernel
theorem dX8_price_81 : decode cX8_price 81 = .ok (.iload_n 3, 1) := by decide +kernel
theorem dX8_price_82 : decode cX8_price 82 = .ok (.i2l, 1) := by decide +kernel
theorem dX8_price_83 : decode cX8_price 83 = .ok (.iload 4, 2) := by decide +kernel
theorem dX8_price_85 : decode cX8_price 85 = .ok (.ineg, 1) := by decide +kernel
theorem dX8_price_86 : decode cX8_price 86 = .ok (.i2l, 1) := by decide +kernel
theorem dX8_price_87 : decode cX8_price 87 = .ok (.iload 4, 2) := by decide +kernel
theorem dX8_price_89 : decode cX8_price 89 = .ok (.i2l, 1) := by decide +kernel
theorem dX8_price_90 : decode cX8_price 90 = .ok (.invokestatic 81, 3) := by decide +kernel
theorem dX8_price_93 : decode cX8_price 93 = .ok (.ifCond .ne 7, 3) := by decide +kernel
theorem dX8_price_96 : decode cX8_price 96 = .ok (.ldc2_w 87, 3) := by decide +kernel
theorem dX8_price_99 : decode cX8_price 99 = .ok (.lreturn, 1) := by decide +kernel
theorem dX8_price_100 : decode cX8_price 100 = .ok (.aload_n 0, 1) := by decide +kernel
theorem dX8_price_101 : decode cX8_price 101 = .ok (.getfield 27, 3) := by decide +kernel
theorem dX8_price_104 : decode cX8_price 104 = .ok (.bipush 36, 2) := by decide +kernel
theorem dX8_price_106 : decode cX8_price 106 = .ok (.iload_n 1, 1) := by decide +kernel
theorem dX8_price_107 : decode cX8_price 107 = .ok (.imul, 1) := by decide +kernel
theorem dX8_price_108 : decode cX8_price 108 = .ok (.iload_n 2, 1) := by decide +kernel
theorem dX8_price_109 : decode cX8_price 109 = .ok (.iadd, 1) := by decide +kernel
theorem dX8_price_110 : decode cX8_price 110 = .ok (.iaload, 1) := by decide +kernel
theorem dX8_price_111 : decode cX8_price 111 = .ok (.i2l, 1) := by decide +kernel
theorem dX8_price_112 : decode cX8_price 112 = .ok (.lstore 5, 2) := by decide +kernel
theorem dX8_price_114 : decode cX8_price 114 = .ok (.aload_n 0, 1) := by decide +kernel
theorem dX8_price_115 : decode cX8_price 115 = .ok (.getfield 27, 3) := by decide +kernel
theorem dX8_price_118 : decode cX8_price 118 = .ok (.bipush 36, 2) := by decide +kernel
theorem dX8_price_120 : decode cX8_price 120 = .ok (.iload_n 1, 1) := by decide +kernel
theorem dX8_price_121 : decode cX8_price 121 = .ok (.imul, 1) := by decide +kernel
theorem dX8_price_122 : decode cX8_price 122 = .ok (.iload_n 2, 1) := by decide +kernel
theorem dX8_price_123 : decode cX8_price 123 = .ok (.iadd, 1) := by decide +kernel
theorem dX8_price_124 : decode cX8_price 124 = .ok (.iload_n 3, 1) := by decide +kernel
theorem dX8_price_125 : decode cX8_price 125 = .ok (.iastore, 1) := by decide +kernel
theorem dX8_price_126 : decode cX8_price 126 = .ok (.lload 5, 2) := by decide +kernel
theorem dX8_price_128 : decode cX8_price 128 = .ok (.lreturn, 1) := by decide +kernel
theorem dX8_copy_0 : decode cX8_copy 0 = .ok (.iload_n 1, 1) := by decide +kernel
theorem dX8_copy_1 : decode cX8_copy 1 = .ok (.invokestatic 96, 3) := by decide +kernel
theorem dX8_copy_4 : decode cX8_copy 4 = .ok (.ifCond .eq 10, 3) := by decide +kernel
theorem dX8_copy_7 : decode cX8_copy 7 = .ok (.iload_n 3, 1) := by decide +kernel
theorem dX8_copy_8 : decode cX8_copy 8 = .ok (.invokestatic 96, 3) := by decide +kernel
theorem dX8_copy_11 : decode cX8_copy 11 = .ok (.ifCond .ne 7, 3) := by decide +kernel
theorem dX8_copy_14 : decode cX8_copy 14 = .ok (.ldc2_w 87, 3) := by decide +kernel
theorem dX8_copy_17 : decode cX8_copy 17 = .ok (.lreturn, 1) := by decide +kernel
theorem dX8_copy_18 : decode cX8_copy 18 = .ok (.aload_n 0, 1) := by decide +kernel
theorem dX8_copy_19 : decode cX8_copy 19 = .ok (.getfield 21, 3) := by decide +kernel
theorem dX8_copy_22 : decode cX8_copy 22 = .ok (.iload_n 1, 1) := by decide +kernel
theorem dX8_copy_23 : decode cX8_copy 23 = .ok (.iaload, 1) := by decide +kernel
theorem dX8_copy_24 : decode cX8_copy 24 = .ok (.ifCond .lt 12, 3) := by decide +kernel
theorem dX8_copy_27 : decode cX8_copy 27 = .ok (.aload_n 0, 1) := by decide +kernel
theorem dX8_copy_28 : decode cX8_copy 28 = .ok (.getfield 21, 3) := by decide +kernel
theorem dX8_copy_31 : decode cX8_copy 31 = .ok (.iload_n 3, 1) := by decide +kernel
theorem dX8_copy_32 : decode cX8_copy 32 = .ok (.iaload, 1) := by decide +kernel
theorem dX8_copy_33 : decode cX8_copy 33 = .ok (.ifCond .ge 7, 3) := by decide +kernel
theorem dX8_copy_36 : decode cX8_copy 36 = .ok (.ldc2_w 104, 3) := by decide +kernel
theorem dX8_copy_39 : decode cX8_copy 39 = .ok (.lreturn, 1) := by decide +kernel
theorem dX8_copy_40 : decode cX8_copy 40 = .ok (.aload_n 0, 1) := by decide +kernel
theorem dX8_copy_41 : decode cX8_copy 41 = .ok (.getfield 21, 3) := by decide +kernel
theorem dX8_copy_44 : decode cX8_copy 44 = .ok (.iload_n 1, 1) := by decide +kernel
theorem dX8_copy_45 : decode cX8_copy 45 = .ok (.iaload, 1) := by decide +kernel
theorem dX8_copy_46 : decode cX8_copy 46 = .ok (.aload_n 0, 1) := by decide +kernel
theorem dX8_copy_47 : decode cX8_copy 47 = .ok (.getfield 21, 3) := by decide +kernel
theorem dX8_copy_50 : decode cX8_copy 50 = .ok (.iload_n 3, 1) := by decide +kernel
theorem dX8_copy_51 : decode cX8_copy 51 = .ok (.iaload, 1) := by decide +kernel
theorem dX8_copy_52 : decode cX8_copy 52 = .ok (.if_icmp .eq 7, 3) := by decide +kernel
theorem dX8_copy_55 : decode cX8_copy 55 = .ok (.ldc2_w 108, 3) := by decide +kernel
theorem dX8_copy_58 : decode cX8_copy 58 = .ok (.lreturn, 1) := by decide +kernel
theorem dX8_copy_59 : decode cX8_copy 59 = .ok (.iload 5, 2) := by decide +kernel
theorem dX8_copy_61 : decode cX8_copy 61 = .ok (.ifCond .lt 47, 3) := by decide +kernel
theorem dX8_copy_64 : decode cX8_copy 64 = .ok (.iload_n 2, 1) := by decide +kernel
theorem dX8_copy_65 : decode cX8_copy 65 = .ok (.ifCond .lt 43, 3) := by decide +kernel
theorem dX8_copy_68 : decode cX8_copy 68 = .ok (.iload 4, 2) := by decide +kernel
theorem dX8_copy_70 : decode cX8_copy 70 = .ok (.ifCond .lt 38, 3) := by decide +kernel
theorem dX8_copy_73 : decode cX8_copy 73 = .ok (.iload_n 2, 1) := by decide +kernel
theorem dX8_copy_74 : decode cX8_copy 74 = .ok (.i2l, 1) := by decide +kernel
theorem dX8_copy_75 : decode cX8_copy 75 = .ok (.iload 5, 2) := by decide +kernel
theorem dX8_copy_77 : decode cX8_copy 77 = .ok (.i2l, 1) := by decide +kernel
theorem dX8_copy_78 : decode cX8_copy 78 = .ok (.ladd, 1) := by decide +kernel
theorem dX8_copy_79 : decode cX8_copy 79 = .ok (.aload_n 0, 1) := by decide +kernel
theorem dX8_copy_80 : decode cX8_copy 80 = .ok (.getfield 24, 3) := by decide +kernel
theorem dX8_copy_83 : decode cX8_copy 83 = .ok (.iload_n 1, 1) := by decide +kernel
theorem dX8_copy_84 : decode cX8_copy 84 = .ok (.iaload, 1) := by decide +kernel
theorem dX8_copy_85 : decode cX8_copy 85 = .ok (.i2l, 1) := by decide +kernel
theorem dX8_copy_86 : decode cX8_copy 86 = .ok (.lcmp, 1) := by decide +kernel
theorem dX8_copy_87 : decode cX8_copy 87 = .ok (.ifCond .gt 21, 3) := by decide +kernel
theorem dX8_copy_90 : decode cX8_copy 90 = .ok (.iload 4, 2) := by decide +kernel
theorem dX8_copy_92 : decode cX8_copy 92 = .ok (.i2l, 1) := by decide +kernel
theorem dX8_copy_93 : decode cX8_copy 93 = .ok (.iload 5, 2) := by decide +kernel
theorem dX8_copy_95 : decode cX8_copy 95 = .ok (.i2l, 1) := by decide +kernel
theorem dX8_copy_96 : decode cX8_copy 96 = .ok (.ladd, 1) := by decide +kernel
theorem dX8_copy_97 : decode cX8_copy 97 = .ok (.aload_n 0, 1) := by decide +kernel
theorem dX8_copy_98 : decode cX8_copy 98 = .ok (.getfield 24, 3) := by decide +kernel
theorem dX8_copy_101 : decode cX8_copy 101 = .ok (.iload_n 3, 1) := by decide +kernel
theorem dX8_copy_102 : decode cX8_copy 102 = .ok (.iaload, 1) := by decide +kernel
theorem dX8_copy_103 : decode cX8_copy 103 = .ok (.i2l, 1) := by decide +kernel
theorem dX8_copy_104 : decode cX8_copy 104 = .ok (.lcmp, 1) := by decide +kernel
theorem dX8_copy_105 : decode cX8_copy 105 = .ok (.ifCond .le 7, 3) := by decide +kernel
theorem dX8_copy_108 : decode cX8_copy 108 = .ok (.ldc2_w 106, 3) := by decide +kernel
theorem dX8_copy_111 : decode cX8_copy 111 = .ok (.lreturn, 1) := by decide +kernel
theorem dX8_copy_112 : decode cX8_copy 112 = .ok (.iconst 0, 1) := by decide +kernel
theorem dX8_copy_113 : decode cX8_copy 113 = .ok (.istore 6, 2) := by decide +kernel
theorem dX8_copy_115 : decode cX8_copy 115 = .ok (.iload 6, 2) := by decide +kernel
theorem dX8_copy_117 : decode cX8_copy 117 = .ok (.iload 5, 2) := by decide +kernel
theorem dX8_copy_119 : decode cX8_copy 119 = .ok (.if_icmp .ge 30, 3) := by decide +kernel
theorem dX8_copy_122 : decode cX8_copy 122 = .ok (.aload_n 0, 1) := by decide +kernel
theorem dX8_copy_123 : decode cX8_copy 123 = .ok (.getfield 70, 3) := by decide +kernel
theorem dX8_copy_126 : decode cX8_copy 126 = .ok (.iload 6, 2) := by decide +kernel
theorem dX8_copy_128 : decode cX8_copy 128 = .ok (.aload_n 0, 1) := by decide +kernel
theorem dX8_copy_129 : decode cX8_copy 129 = .ok (.getfield 27, 3) := by decide +kernel
theorem dX8_copy_132 : decode cX8_copy 132 = .ok (.bipush 36, 2) := by decide +kernel
theorem dX8_copy_134 : decode cX8_copy 134 = .ok (.iload_n 1, 1) := by decide +kernel
theorem dX8_copy_135 : decode cX8_copy 135 = .ok (.imul, 1) := by decide +kernel
theorem dX8_copy_136 : decode cX8_copy 136 = .ok (.iload_n 2, 1) := by decide +kernel
theorem dX8_copy_137 : decode cX8_copy 137 = .ok (.iadd, 1) := by decide +kernel
theorem dX8_copy_138 : decode cX8_copy 138 = .ok (.iload 6, 2) := by decide +kernel
theorem dX8_copy_140 : decode cX8_copy 140 = .ok (.iadd, 1) := by decide +kernel
theorem dX8_copy_141 : decode cX8_copy 141 = .ok (.iaload, 1) := by decide +kernel
theorem dX8_copy_142 : decode cX8_copy 142 = .ok (.iastore, 1) := by decide +kernel
theorem dX8_copy_143 : decode cX8_copy 143 = .ok (.iinc 6 1, 3) := by decide +kernel
theorem dX8_copy_146 : decode cX8_copy 146 = .ok (.goto (-31), 3) := by decide +kernel
theorem dX8_copy_149 : decode cX8_copy 149 = .ok (.iconst 0, 1) := by decide +kernel
theorem dX8_copy_150 : decode cX8_copy 150 = .ok (.istore 6, 2) := by decide +kernel
theorem dX8_copy_152 : decode cX8_copy 152 = .ok (.iload 6, 2) := by decide +kernel
theorem dX8_copy_154 : decode cX8_copy 154 = .ok (.iload 5, 2) := by decide +kernel
theorem dX8_copy_156 : decode cX8_copy 156 = .ok (.if_icmp .ge 31, 3) := by decide +kernel
theorem dX8_copy_159 : decode cX8_copy 159 = .ok (.aload_n 0, 1) := by decide +kernel
theorem dX8_copy_160 : decode cX8_copy 160 = .ok (.getfield 27, 3) := by decide +kernel
theorem dX8_copy_163 : decode cX8_copy 163 = .ok (.bipush 36, 2) := by decide +kernel
theorem dX8_copy_165 : decode cX8_copy 165 = .ok (.iload_n 3, 1) := by decide +kernel
theorem dX8_copy_166 : decode cX8_copy 166 = .ok (.imul, 1) := by decide +kernel
theorem dX8_copy_167 : decode cX8_copy 167 = .ok (.iload 4, 2) := by decide +kernel
theorem dX8_copy_169 : decode cX8_copy 169 = .ok (.iadd, 1) := by decide +kernel
theorem dX8_copy_170 : decode cX8_copy 170 = .ok (.iload 6, 2) := by decide +kernel
theorem dX8_copy_172 : decode cX8_copy 172 = .ok (.iadd, 1) := by decide +kernel
theorem dX8_copy_173 : decode cX8_copy 173 = .ok (.aload_n 0, 1) := by decide +kernel
theorem dX8_copy_174 : decode cX8_copy 174 = .ok (.getfield 70, 3) := by decide +kernel
theorem dX8_copy_177 : decode cX8_copy 177 = .ok (.iload 6, 2) := by decide +kernel
theorem dX8_copy_179 : decode cX8_copy 179 = .ok (.iaload, 1) := by decide +kernel
theorem dX8_copy_180 : decode cX8_copy 180 = .ok (.iastore, 1) := by decide +kernel
theorem dX8_copy_181 : decode cX8_copy 181 = .ok (.iinc 6 1, 3) := by decide +kernel
theorem dX8_copy_184 : decode cX8_copy 184 = .ok (.goto (-32), 3) := by decide +kernel
theorem dX8_copy_187 : decode cX8_copy 187 = .ok (.iload 5, 2) := by decide +kernel
theorem dX8_copy_189 : decode cX8_copy 189 = .ok (.i2l, 1) := by decide +kernel
theorem dX8_copy_190 : decode cX8_copy 190 = .ok (.lreturn, 1) := by decide +kernel
theorem dX8_priceOf_0 : decode cX8_priceOf 0 = .ok (.aload_n 0, 1) := by decide +kernel
theorem dX8_priceOf_1 : decode cX8_priceOf 1 = .ok (.getfield 21, 3) := by decide +kernel
theorem dX8_priceOf_4 : decode cX8_priceOf 4 = .ok (.iload_n 1, 1) := by decide +kernel
theorem dX8_priceOf_5 : decode cX8_priceOf 5 = .ok (.iaload, 1) := by decide +kernel
theorem dX8_priceOf_6 : decode cX8_priceOf 6 = .ok (.ifCond .lt 27, 3) := by decide +kernel
theorem dX8_priceOf_9 : decode cX8_priceOf 9 = .ok (.iload_n 2, 1) := by decide +kernel
theorem dX8_priceOf_10 : decode cX8_priceOf 10 = .ok (.aload_n 0, 1) := by decide +kernel
theorem dX8_priceOf_11 : decode cX8_priceOf 11 = .ok (.getfield 24, 3) := by decide +kernel
theorem dX8_priceOf_14 : decode cX8_priceOf 14 = .ok (.iload_n 1, 1) := by decide +kernel
theorem dX8_priceOf_15 : decode cX8_priceOf 15 = .ok (.iaload, 1) := by decide +kernel
theorem dX8_priceOf_16 : decode cX8_priceOf 16 = .ok (.if_icmp .ge 17, 3) := by decide +kernel
theorem dX8_priceOf_19 : decode cX8_priceOf 19 = .ok (.aload_n 0, 1) := by decide +kernel
theorem dX8_priceOf_20 : decode cX8_priceOf 20 = .ok (.getfield 27, 3) := by decide +kernel
theorem dX8_priceOf_23 : decode cX8_priceOf 23 = .ok (.bipush 36, 2) := by decide +kernel
theorem dX8_priceOf_25 : decode cX8_priceOf 25 = .ok (.iload_n 1, 1) := by decide +kernel
theorem dX8_priceOf_26 : decode cX8_priceOf 26 = .ok (.imul, 1) := by decide +kernel
theorem dX8_priceOf_27 : decode cX8_priceOf 27 = .ok (.iload_n 2, 1) := by decide +kernel
theorem dX8_priceOf_28 : decode cX8_priceOf 28 = .ok (.iadd, 1) := by decide +kernel
theorem dX8_priceOf_29 : decode cX8_priceOf 29 = .ok (.iaload, 1) := by decide +kernel
theorem dX8_priceOf_30 : decode cX8_priceOf 30 = .ok (.goto 4, 3) := by decide +kernel
theorem dX8_priceOf_33 : decode cX8_priceOf 33 = .ok (.iconst 0, 1) := by decide +kernel
theorem dX8_priceOf_34 : decode cX8_priceOf 34 = .ok (.ireturn, 1) := by decide +kernel
theorem dX8_told_0 : decode cX8_told 0 = .ok (.iload_n 1, 1) := by decide +kernel
theorem dX8_told_1 : decode cX8_told 1 = .ok (.invokestatic 96, 3) := by decide +kernel
theorem dX8_told_4 : decode cX8_told 4 = .ok (.ifCond .eq 25, 3) := by decide +kernel
theorem dX8_told_7 : decode cX8_told 7 = .ok (.iload_n 2, 1) := by decide +kernel
theorem dX8_told_8 : decode cX8_told 8 = .ok (.i2l, 1) := by decide +kernel
theorem dX8_told_9 : decode cX8_told 9 = .ok (.lconst 0, 1) := by decide +kernel
theorem dX8_told_10 : decode cX8_told 10 = .ok (.ldc2_w 92, 3) := by decide +kernel
theorem dX8_told_13 : decode cX8_told 13 = .ok (.invokestatic 81, 3) := by decide +kernel
theorem dX8_told_16 : decode cX8_told 16 = .ok (.ifCond .eq 13, 3) := by decide +kernel
theorem dX8_told_19 : decode cX8_told 19 = .ok (.aload_n 0, 1) := by decide +kernel
theorem dX8_told_20 : decode cX8_told 20 = .ok (.iload_n 1, 1) := by decide +kernel
theorem dX8_told_21 : decode cX8_told 21 = .ok (.iload_n 2, 1) := by decide +kernel
theorem dX8_told_22 : decode cX8_told 22 = .ok (.invokevirtual 110, 3) := by decide +kernel
theorem dX8_told_25 : decode cX8_told 25 = .ok (.i2l, 1) := by decide +kernel
theorem dX8_told_26 : decode cX8_told 26 = .ok (.goto 6, 3) := by decide +kernel
theorem dX8_told_29 : decode cX8_told 29 = .ok (.ldc2_w 87, 3) := by decide +kernel
theorem dX8_told_32 : decode cX8_told 32 = .ok (.lreturn, 1) := by decide +kernel
theorem dX8_store_0 : decode cX8_store 0 = .ok (.iload 4, 2) := by decide +kernel
theorem dX8_store_2 : decode cX8_store 2 = .ok (.i2l, 1) := by decide +kernel
theorem dX8_store_3 : decode cX8_store 3 = .ok (.ldc2_w 114, 3) := by decide +kernel
theorem dX8_store_6 : decode cX8_store 6 = .ok (.ldc2_w 116, 3) := by decide +kernel
theorem dX8_store_9 : decode cX8_store 9 = .ok (.invokestatic 81, 3) := by decide +kernel
theorem dX8_store_12 : decode cX8_store 12 = .ok (.ifCond .eq 39, 3) := by decide +kernel
theorem dX8_store_15 : decode cX8_store 15 = .ok (.iload 4, 2) := by decide +kernel
theorem dX8_store_17 : decode cX8_store 17 = .ok (.bipush 21, 2) := by decide +kernel
theorem dX8_store_19 : decode cX8_store 19 = .ok (.idiv, 1) := by decide +kernel
theorem dX8_store_20 : decode cX8_store 20 = .ok (.i2l, 1) := by decide +kernel
theorem dX8_store_21 : decode cX8_store 21 = .ok (.lconst 1, 1) := by decide +kernel
theorem dX8_store_22 : decode cX8_store 22 = .ok (.ldc2_w 118, 3) := by decide +kernel
theorem dX8_store_25 : decode cX8_store 25 = .ok (.invokestatic 81, 3) := by decide +kernel
theorem dX8_store_28 : decode cX8_store 28 = .ok (.ifCond .eq 23, 3) := by decide +kernel
theorem dX8_store_31 : decode cX8_store 31 = .ok (.iload 4, 2) := by decide +kernel
theorem dX8_store_33 : decode cX8_store 33 = .ok (.bipush 21, 2) := by decide +kernel
theorem dX8_store_35 : decode cX8_store 35 = .ok (.irem, 1) := by decide +kernel
theorem dX8_store_36 : decode cX8_store 36 = .ok (.i2l, 1) := by decide +kernel
theorem dX8_store_37 : decode cX8_store 37 = .ok (.lconst 1, 1) := by decide +kernel
theorem dX8_store_38 : decode cX8_store 38 = .ok (.ldc2_w 118, 3) := by decide +kernel
theorem dX8_store_41 : decode cX8_store 41 = .ok (.invokestatic 81, 3) := by decide +kernel
theorem dX8_store_44 : decode cX8_store 44 = .ok (.ifCond .eq 7, 3) := by decide +kernel
theorem dX8_store_47 : decode cX8_store 47 = .ok (.iconst 1, 1) := by decide +kernel
theorem dX8_store_48 : decode cX8_store 48 = .ok (.goto 4, 3) := by decide +kernel
theorem dX8_store_51 : decode cX8_store 51 = .ok (.iconst 0, 1) := by decide +kernel
theorem dX8_store_52 : decode cX8_store 52 = .ok (.istore 6, 2) := by decide +kernel
theorem dX8_store_54 : decode cX8_store 54 = .ok (.iload 5, 2) := by decide +kernel
theorem dX8_store_56 : decode cX8_store 56 = .ok (.i2l, 1) := by decide +kernel
theorem dX8_store_57 : decode cX8_store 57 = .ok (.lconst 0, 1) := by decide +kernel
theorem dX8_store_58 : decode cX8_store 58 = .ok (.ldc2_w 120, 3) := by decide +kernel
theorem dX8_store_61 : decode cX8_store 61 = .ok (.invokestatic 81, 3) := by decide +kernel
theorem dX8_store_64 : decode cX8_store 64 = .ok (.ifCond .eq 23, 3) := by decide +kernel
theorem dX8_store_67 : decode cX8_store 67 = .ok (.iload 5, 2) := by decide +kernel
theorem dX8_store_69 : decode cX8_store 69 = .ok (.bipush 101, 2) := by decide +kernel
theorem dX8_store_71 : decode cX8_store 71 = .ok (.idiv, 1) := by decide +kernel
theorem dX8_store_72 : decode cX8_store 72 = .ok (.i2l, 1) := by decide +kernel
theorem dX8_store_73 : decode cX8_store 73 = .ok (.lconst 0, 1) := by decide +kernel
theorem dX8_store_74 : decode cX8_store 74 = .ok (.ldc2_w 122, 3) := by decide +kernel
theorem dX8_store_77 : decode cX8_store 77 = .ok (.invokestatic 81, 3) := by decide +kernel
theorem dX8_store_80 : decode cX8_store 80 = .ok (.ifCond .eq 7, 3) := by decide +kernel
theorem dX8_store_83 : decode cX8_store 83 = .ok (.iconst 1, 1) := by decide +kernel
theorem dX8_store_84 : decode cX8_store 84 = .ok (.goto 4, 3) := by decide +kernel
theorem dX8_store_87 : decode cX8_store 87 = .ok (.iconst 0, 1) := by decide +kernel
theorem dX8_store_88 : decode cX8_store 88 = .ok (.istore 7, 2) := by decide +kernel
theorem dX8_store_90 : decode cX8_store 90 = .ok (.iload_n 1, 1) := by decide +kernel
theorem dX8_store_91 : decode cX8_store 91 = .ok (.invokestatic 124, 3) := by decide +kernel
theorem dX8_store_94 : decode cX8_store 94 = .ok (.ifCond .eq 37, 3) := by decide +kernel
theorem dX8_store_97 : decode cX8_store 97 = .ok (.iload_n 2, 1) := by decide +kernel
theorem dX8_store_98 : decode cX8_store 98 = .ok (.i2l, 1) := by decide +kernel
theorem dX8_store_99 : decode cX8_store 99 = .ok (.lconst 0, 1) := by decide +kernel
theorem dX8_store_100 : decode cX8_store 100 = .ok (.ldc2_w 127, 3) := by decide +kernel
theorem dX8_store_103 : decode cX8_store 103 = .ok (.invokestatic 81, 3) := by decide +kernel
theorem dX8_store_106 : decode cX8_store 106 = .ok (.ifCond .eq 25, 3) := by decide +kernel
theorem dX8_store_109 : decode cX8_store 109 = .ok (.iload_n 3, 1) := by decide +kernel
theorem dX8_store_110 : decode cX8_store 110 = .ok (.i2l, 1) := by decide +kernel
theorem dX8_store_111 : decode cX8_store 111 = .ok (.lconst 1, 1) := by decide +kernel
theorem dX8_store_112 : decode cX8_store 112 = .ok (.ldc2_w 129, 3) := by decide +kernel
theorem dX8_store_115 : decode cX8_store 115 = .ok (.invokestatic 81, 3) := by decide +kernel
theorem dX8_store_118 : decode cX8_store 118 = .ok (.ifCond .eq 13, 3) := by decide +kernel
theorem dX8_store_121 : decode cX8_store 121 = .ok (.iload 6, 2) := by decide +kernel
theorem dX8_store_123 : decode cX8_store 123 = .ok (.ifCond .eq 8, 3) := by decide +kernel
theorem dX8_store_126 : decode cX8_store 126 = .ok (.iload 7, 2) := by decide +kernel
theorem dX8_store_128 : decode cX8_store 128 = .ok (.ifCond .ne 7, 3) := by decide +kernel
theorem dX8_store_131 : decode cX8_store 131 = .ok (.ldc2_w 87, 3) := by decide +kernel
theorem dX8_store_134 : decode cX8_store 134 = .ok (.lreturn, 1) := by decide +kernel
theorem dX8_store_135 : decode cX8_store 135 = .ok (.aload_n 0, 1) := by decide +kernel
theorem dX8_store_136 : decode cX8_store 136 = .ok (.getfield 30, 3) := by decide +kernel
theorem dX8_store_139 : decode cX8_store 139 = .ok (.iload_n 1, 1) := by decide +kernel
theorem dX8_store_140 : decode cX8_store 140 = .ok (.iload_n 2, 1) := by decide +kernel
theorem dX8_store_141 : decode cX8_store 141 = .ok (.iastore, 1) := by decide +kernel
theorem dX8_store_142 : decode cX8_store 142 = .ok (.aload_n 0, 1) := by decide +kernel
theorem dX8_store_143 : decode cX8_store 143 = .ok (.getfield 33, 3) := by decide +kernel
theorem dX8_store_146 : decode cX8_store 146 = .ok (.iload_n 1, 1) := by decide +kernel
theorem dX8_store_147 : decode cX8_store 147 = .ok (.iload_n 3, 1) := by decide +kernel
theorem dX8_store_148 : decode cX8_store 148 = .ok (.iastore, 1) := by decide +kernel
theorem dX8_store_149 : decode cX8_store 149 = .ok (.aload_n 0, 1) := by decide +kernel
theorem dX8_store_150 : decode cX8_store 150 = .ok (.getfield 39, 3) := by decide +kernel
theorem dX8_store_153 : decode cX8_store 153 = .ok (.iload_n 1, 1) := by decide +kernel
theorem dX8_store_154 : decode cX8_store 154 = .ok (.iload 4, 2) := by decide +kernel
theorem dX8_store_156 : decode cX8_store 156 = .ok (.bipush 21, 2) := by decide +kernel
theorem dX8_store_158 : decode cX8_store 158 = .ok (.idiv, 1) := by decide +kernel
theorem dX8_store_159 : decode cX8_store 159 = .ok (.iastore, 1) := by decide +kernel
theorem dX8_store_160 : decode cX8_store 160 = .ok (.aload_n 0, 1) := by decide +kernel
theorem dX8_store_161 : decode cX8_store 161 = .ok (.getfield 42, 3) := by decide +kernel
theorem dX8_store_164 : decode cX8_store 164 = .ok (.iload_n 1, 1) := by decide +kernel
theorem dX8_store_165 : decode cX8_store 165 = .ok (.iload 4, 2) := by decide +kernel
theorem dX8_store_167 : decode cX8_store 167 = .ok (.bipush 21, 2) := by decide +kernel
theorem dX8_store_169 : decode cX8_store 169 = .ok (.irem, 1) := by decide +kernel
theorem dX8_store_170 : decode cX8_store 170 = .ok (.iastore, 1) := by decide +kernel
theorem dX8_store_171 : decode cX8_store 171 = .ok (.aload_n 0, 1) := by decide +kernel
theorem dX8_store_172 : decode cX8_store 172 = .ok (.getfield 45, 3) := by decide +kernel
theorem dX8_store_175 : decode cX8_store 175 = .ok (.iload_n 1, 1) := by decide +kernel
theorem dX8_store_176 : decode cX8_store 176 = .ok (.iload 5, 2) := by decide +kernel
theorem dX8_store_178 : decode cX8_store 178 = .ok (.bipush 101, 2) := by decide +kernel
theorem dX8_store_180 : decode cX8_store 180 = .ok (.idiv, 1) := by decide +kernel
theorem dX8_store_181 : decode cX8_store 181 = .ok (.iastore, 1) := by decide +kernel
theorem dX8_store_182 : decode cX8_store 182 = .ok (.aload_n 0, 1) := by decide +kernel
theorem dX8_store_183 : decode cX8_store 183 = .ok (.getfield 48, 3) := by decide +kernel
theorem dX8_store_186 : decode cX8_store 186 = .ok (.iload_n 1, 1) := by decide +kernel
theorem dX8_store_187 : decode cX8_store 187 = .ok (.iload 5, 2) := by decide +kernel
theorem dX8_store_189 : decode cX8_store 189 = .ok (.bipush 101, 2) := by decide +kernel
theorem dX8_store_191 : decode cX8_store 191 = .ok (.irem, 1) := by decide +kernel
theorem dX8_store_192 : decode cX8_store 192 = .ok (.iastore, 1) := by decide +kernel
theorem dX8_store_193 : decode cX8_store 193 = .ok (.aload_n 0, 1) := by decide +kernel
theorem dX8_store_194 : decode cX8_store 194 = .ok (.getfield 51, 3) := by decide +kernel
theorem dX8_store_197 : decode cX8_store 197 = .ok (.iload_n 1, 1) := by decide +kernel
theorem dX8_store_198 : decode cX8_store 198 = .ok (.iconst 0, 1) := by decide +kernel
theorem dX8_store_199 : decode cX8_store 199 = .ok (.iastore, 1) := by decide +kernel
theorem dX8_store_200 : decode cX8_store 200 = .ok (.aload_n 0, 1) := by decide +kernel
theorem dX8_store_201 : decode cX8_store 201 = .ok (.getfield 54, 3) := by decide +kernel
theorem dX8_store_204 : decode cX8_store 204 = .ok (.iload_n 1, 1) := by decide +kernel
theorem dX8_store_205 : decode cX8_store 205 = .ok (.ldc 131, 2) := by decide +kernel
theorem dX8_store_207 : decode cX8_store 207 = .ok (.iastore, 1) := by decide +kernel
theorem dX8_store_208 : decode cX8_store 208 = .ok (.aload_n 0, 1) := by decide +kernel
theorem dX8_store_209 : decode cX8_store 209 = .ok (.getfield 36, 3) := by decide +kernel
theorem dX8_store_212 : decode cX8_store 212 = .ok (.iload_n 1, 1) := by decide +kernel
theorem dX8_store_213 : decode cX8_store 213 = .ok (.aload_n 0, 1) := by decide +kernel
theorem dX8_store_214 : decode cX8_store 214 = .ok (.iload_n 1, 1) := by decide +kernel
theorem dX8_store_215 : decode cX8_store 215 = .ok (.invokevirtual 132, 3) := by decide +kernel
theorem dX8_store_218 : decode cX8_store 218 = .ok (.iastore, 1) := by decide +kernel
theorem dX8_store_219 : decode cX8_store 219 = .ok (.iconst 0, 1) := by decide +kernel
theorem dX8_store_220 : decode cX8_store 220 = .ok (.istore 8, 2) := by decide +kernel
theorem dX8_store_222 : decode cX8_store 222 = .ok (.iload 8, 2) := by decide +kernel
theorem dX8_store_224 : decode cX8_store 224 = .ok (.bipush 36, 2) := by decide +kernel
theorem dX8_store_226 : decode cX8_store 226 = .ok (.if_icmp .ge 22, 3) := by decide +kernel
theorem dX8_store_229 : decode cX8_store 229 = .ok (.aload_n 0, 1) := by decide +kernel
theorem dX8_store_230 : decode cX8_store 230 = .ok (.getfield 57, 3) := by decide +kernel
theorem dX8_store_233 : decode cX8_store 233 = .ok (.bipush 36, 2) := by decide +kernel
theorem dX8_store_235 : decode cX8_store 235 = .ok (.iload_n 1, 1) := by decide +kernel
theorem dX8_store_236 : decode cX8_store 236 = .ok (.imul, 1) := by decide +kernel
theorem dX8_store_237 : decode cX8_store 237 = .ok (.iload 8, 2) := by decide +kernel
theorem dX8_store_239 : decode cX8_store 239 = .ok (.iadd, 1) := by decide +kernel
theorem dX8_store_240 : decode cX8_store 240 = .ok (.iconst 0, 1) := by decide +kernel
theorem dX8_store_241 : decode cX8_store 241 = .ok (.iastore, 1) := by decide +kernel
theorem dX8_store_242 : decode cX8_store 242 = .ok (.iinc 8 1, 3) := by decide +kernel
theorem dX8_store_245 : decode cX8_store 245 = .ok (.goto (-23), 3) := by decide +kernel
theorem dX8_store_248 : decode cX8_store 248 = .ok (.lconst 0, 1) := by decide +kernel
theorem dX8_store_249 : decode cX8_store 249 = .ok (.lreturn, 1) := by decide +kernel
theorem dX8_isQuick_0 : decode cX8_isQuick 0 = .ok (.aload_n 0, 1) := by decide +kernel
theorem dX8_isQuick_1 : decode cX8_isQuick 1 = .ok (.getfield 30, 3) := by decide +kernel
theorem dX8_isQuick_4 : decode cX8_isQuick 4 = .ok (.iload_n 1, 1) := by decide +kernel
theorem dX8_isQuick_5 : decode cX8_isQuick 5 = .ok (.iaload, 1) := by decide +kernel
theorem dX8_isQuick_6 : decode cX8_isQuick 6 = .ok (.iconst 1, 1) := by decide +kernel
theorem dX8_isQuick_7 : decode cX8_isQuick 7 = .ok (.if_icmp .eq 13, 3) := by decide +kernel
theorem dX8_isQuick_10 : decode cX8_isQuick 10 = .ok (.aload_n 0, 1) := by decide +kernel
theorem dX8_isQuick_11 : decode cX8_isQuick 11 = .ok (.getfield 30, 3) := by decide +kernel
theorem dX8_isQuick_14 : decode cX8_isQuick 14 = .ok (.iload_n 1, 1) := by decide +kernel
theorem dX8_isQuick_15 : decode cX8_isQuick 15 = .ok (.iaload, 1) := by decide +kernel
theorem dX8_isQuick_16 : decode cX8_isQuick 16 = .ok (.iconst 2, 1) := by decide +kernel
theorem dX8_isQuick_17 : decode cX8_isQuick 17 = .ok (.if_icmp .ne 7, 3) := by decide +kernel
theorem dX8_isQuick_20 : decode cX8_isQuick 20 = .ok (.iconst 1, 1) := by decide +kernel
theorem dX8_isQuick_21 : decode cX8_isQuick 21 = .ok (.goto 4, 3) := by decide +kernel
theorem dX8_isQuick_24 : decode cX8_isQuick 24 = .ok (.iconst 0, 1) := by decide +kernel
theorem dX8_isQuick_25 : decode cX8_isQuick 25 = .ok (.ireturn, 1) := by decide +kernel
theorem dX8_isOld_0 : decode cX8_isOld 0 = .ok (.aload_n 0, 1) := by decide +kernel
theorem dX8_isOld_1 : decode cX8_isOld 1 = .ok (.getfield 30, 3) := by decide +kernel
theorem dX8_isOld_4 : decode cX8_isOld 4 = .ok (.iload_n 1, 1) := by decide +kernel
theorem dX8_isOld_5 : decode cX8_isOld 5 = .ok (.iaload, 1) := by decide +kernel
theorem dX8_isOld_6 : decode cX8_isOld 6 = .ok (.iconst 3, 1) := by decide +kernel
theorem dX8_isOld_7 : decode cX8_isOld 7 = .ok (.if_icmp .eq 13, 3) := by decide +kernel
theorem dX8_isOld_10 : decode cX8_isOld 10 = .ok (.aload_n 0, 1) := by decide +kernel
theorem dX8_isOld_11 : decode cX8_isOld 11 = .ok (.getfield 30, 3) := by decide +kernel
theorem dX8_isOld_14 : decode cX8_isOld 14 = .ok (.iload_n 1, 1) := by decide +kernel
theorem dX8_isOld_15 : decode cX8_isOld 15 = .ok (.iaload, 1) := by decide +kernel
theorem dX8_isOld_16 : decode cX8_isOld 16 = .ok (.iconst 4, 1) := by decide +kernel
theorem dX8_isOld_17 : decode cX8_isOld 17 = .ok (.if_icmp .ne 7, 3) := by decide +kernel
theorem dX8_isOld_20 : decode cX8_isOld 20 = .ok (.iconst 1, 1) := by decide +kernel
theorem dX8_isOld_21 : decode cX8_isOld 21 = .ok (.goto 4, 3) := by decide +kernel
theorem dX8_isOld_24 : decode cX8_isOld 24 = .ok (.iconst 0, 1) := by decide +kernel
theorem dX8_isOld_25 : decode cX8_isOld 25 = .ok (.ireturn, 1) := by decide +kernel
theorem dX8_in_0 : decode cX8_in 0 = .ok (.aload_n 0, 1) := by decide +kernel
theorem dX8_in_1 : decode cX8_in 1 = .ok (.iload_n 1, 1) := by decide +kernel
theorem dX8_in_2 : decode cX8_in 2 = .ok (.invokevirtual 136, 3) := by decide +kernel
theorem dX8_in_5 : decode cX8_in 5 = .ok (.ifCond .eq 14, 3) := by decide +kernel
theorem dX8_in_8 : decode cX8_in 8 = .ok (.iconst 2, 1) := by decide +kernel
theorem dX8_in_9 : decode cX8_in 9 = .ok (.aload_n 0, 1) := by decide +kernel
theorem dX8_in_10 : decode cX8_in 10 = .ok (.getfield 39, 3) := by decide +kernel
theorem dX8_in_13 : decode cX8_in 13 = .ok (.iload_n 1, 1) := by decide +kernel
theorem dX8_in_14 : decode cX8_in 14 = .ok (.iaload, 1) := by decide +kernel
theorem dX8_in_15 : decode cX8_in 15 = .ok (.imul, 1) := by decide +kernel
theorem dX8_in_16 : decode cX8_in 16 = .ok (.goto 9, 3) := by decide +kernel
theorem dX8_in_19 : decode cX8_in 19 = .ok (.aload_n 0, 1) := by decide +kernel
theorem dX8_in_20 : decode cX8_in 20 = .ok (.getfield 39, 3) := by decide +kernel
theorem dX8_in_23 : decode cX8_in 23 = .ok (.iload_n 1, 1) := by decide +kernel
theorem dX8_in_24 : decode cX8_in 24 = .ok (.iaload, 1) := by decide +kernel
theorem dX8_in_25 : decode cX8_in 25 = .ok (.ireturn, 1) := by decide +kernel
theorem dX8_out_0 : decode cX8_out 0 = .ok (.aload_n 0, 1) := by decide +kernel
theorem dX8_out_1 : decode cX8_out 1 = .ok (.iload_n 1, 1) := by decide +kernel
theorem dX8_out_2 : decode cX8_out 2 = .ok (.invokevirtual 136, 3) := by decide +kernel
theorem dX8_out_5 : decode cX8_out 5 = .ok (.ifCond .eq 14, 3) := by decide +kernel
theorem dX8_out_8 : decode cX8_out 8 = .ok (.iconst 2, 1) := by decide +kernel
theorem dX8_out_9 : decode cX8_out 9 = .ok (.aload_n 0, 1) := by decide +kernel
theorem dX8_out_10 : decode cX8_out 10 = .ok (.getfield 42, 3) := by decide +kernel
theorem dX8_out_13 : decode cX8_out 13 = .ok (.iload_n 1, 1) := by decide +kernel
theorem dX8_out_14 : decode cX8_out 14 = .ok (.iaload, 1) := by decide +kernel
theorem dX8_out_15 : decode cX8_out 15 = .ok (.imul, 1) := by decide +kernel
theorem dX8_out_16 : decode cX8_out 16 = .ok (.goto 9, 3) := by decide +kernel
theorem dX8_out_19 : decode cX8_out 19 = .ok (.aload_n 0, 1) := by decide +kernel
theorem dX8_out_20 : decode cX8_out 20 = .ok (.getfield 42, 3) := by decide +kernel
theorem dX8_out_23 : decode cX8_out 23 = .ok (.iload_n 1, 1) := by decide +kernel
theorem dX8_out_24 : decode cX8_out 24 = .ok (.iaload, 1) := by decide +kernel
theorem dX8_out_25 : decode cX8_out 25 = .ok (.ireturn, 1) := by decide +kernel
theorem dX8_loss_0 : decode cX8_loss 0 = .ok (.aload_n 0, 1) := by decide +kernel
theorem dX8_loss_1 : decode cX8_loss 1 = .ok (.getfield 30, 3) := by decide +kernel
theorem dX8_loss_4 : decode cX8_loss 4 = .ok (.iload_n 1, 1) := by decide +kernel
theorem dX8_loss_5 : decode cX8_loss 5 = .ok (.iaload, 1) := by decide +kernel
theorem dX8_loss_6 : decode cX8_loss 6 = .ok (.iconst 2, 1) := by decide +kernel
theorem dX8_loss_7 : decode cX8_loss 7 = .ok (.if_icmp .ne 14, 3) := by decide +kernel
theorem dX8_loss_10 : decode cX8_loss 10 = .ok (.aload_n 0, 1) := by decide +kernel
theorem dX8_loss_11 : decode cX8_loss 11 = .ok (.getfield 45, 3) := by decide +kernel
theorem dX8_loss_14 : decode cX8_loss 14 = .ok (.iload_n 1, 1) := by decide +kernel
theorem dX8_loss_15 : decode cX8_loss 15 = .ok (.iaload, 1) := by decide +kernel
theorem dX8_loss_16 : decode cX8_loss 16 = .ok (.iconst 2, 1) := by decide +kernel
theorem dX8_loss_17 : decode cX8_loss 17 = .ok (.idiv, 1) := by decide +kernel
theorem dX8_loss_18 : decode cX8_loss 18 = .ok (.goto 9, 3) := by decide +kernel
theorem dX8_loss_21 : decode cX8_loss 21 = .ok (.aload_n 0, 1) := by decide +kernel
theorem dX8_loss_22 : decode cX8_loss 22 = .ok (.getfield 45, 3) := by decide +kernel
theorem dX8_loss_25 : decode cX8_loss 25 = .ok (.iload_n 1, 1) := by decide +kernel
theorem dX8_loss_26 : decode cX8_loss 26 = .ok (.iaload, 1) := by decide +kernel
theorem dX8_loss_27 : decode cX8_loss 27 = .ok (.ireturn, 1) := by decide +kernel
theorem dX8_topOf_0 : decode cX8_topOf 0 = .ok (.aload_n 0, 1) := by decide +kernel
theorem dX8_topOf_1 : decode cX8_topOf 1 = .ok (.iload_n 1, 1) := by decide +kernel
theorem dX8_topOf_2 : decode cX8_topOf 2 = .ok (.invokevirtual 139, 3) := by decide +kernel
theorem dX8_topOf_5 : decode cX8_topOf 5 = .ok (.ifCond .eq 16, 3) := by decide +kernel
theorem dX8_topOf_8 : decode cX8_topOf 8 = .ok (.aload_n 0, 1) := by decide +kernel
theorem dX8_topOf_9 : decode cX8_topOf 9 = .ok (.getfield 33, 3) := by decide +kernel
theorem dX8_topOf_12 : decode cX8_topOf 12 = .ok (.iload_n 1, 1) := by decide +kernel
theorem dX8_topOf_13 : decode cX8_topOf 13 = .ok (.iaload, 1) := by decide +kernel
theorem dX8_topOf_14 : decode cX8_topOf 14 = .ok (.iconst 4, 1) := by decide +kernel
theorem dX8_topOf_15 : decode cX8_topOf 15 = .ok (.imul, 1) := by decide +kernel
theorem dX8_topOf_16 : decode cX8_topOf 16 = .ok (.iconst 5, 1) := by decide +kernel
theorem dX8_topOf_17 : decode cX8_topOf 17 = .ok (.idiv, 1) := by decide +kernel
theorem dX8_topOf_18 : decode cX8_topOf 18 = .ok (.goto 9, 3) := by decide +kernel
theorem dX8_topOf_21 : decode cX8_topOf 21 = .ok (.aload_n 0, 1) := by decide +kernel
theorem dX8_topOf_22 : decode cX8_topOf 22 = .ok (.getfield 33, 3) := by decide +kernel
theorem dX8_topOf_25 : decode cX8_topOf 25 = .ok (.iload_n 1, 1) := by decide +kernel
theorem dX8_topOf_26 : decode cX8_topOf 26 = .ok (.iaload, 1) := by decide +kernel
theorem dX8_topOf_27 : decode cX8_topOf 27 = .ok (.ireturn, 1) := by decide +kernel
theorem dX8_floorOf_0 : decode cX8_floorOf 0 = .ok (.aload_n 0, 1) := by decide +kernel
theorem dX8_floorOf_1 : decode cX8_floorOf 1 = .ok (.getfield 30, 3) := by decide +kernel
theorem dX8_floorOf_4 : decode cX8_floorOf 4 = .ok (.iload_n 1, 1) := by decide +kernel
theorem dX8_floorOf_5 : decode cX8_floorOf 5 = .ok (.iaload, 1) := by decide +kernel
theorem dX8_floorOf_6 : decode cX8_floorOf 6 = .ok (.iconst 4, 1) := by decide +kernel
theorem dX8_floorOf_7 : decode cX8_floorOf 7 = .ok (.if_icmp .ne 15, 3) := by decide +kernel
theorem dX8_floorOf_10 : decode cX8_floorOf 10 = .ok (.aload_n 0, 1) := by decide +kernel
theorem dX8_floorOf_11 : decode cX8_floorOf 11 = .ok (.getfield 33, 3) := by decide +kernel
theorem dX8_floorOf_14 : decode cX8_floorOf 14 = .ok (.iload_n 1, 1) := by decide +kernel
theorem dX8_floorOf_15 : decode cX8_floorOf 15 = .ok (.iaload, 1) := by decide +kernel
theorem dX8_floorOf_16 : decode cX8_floorOf 16 = .ok (.bipush 10, 2) := by decide +kernel
theorem dX8_floorOf_18 : decode cX8_floorOf 18 = .ok (.idiv, 1) := by decide +kernel
theorem dX8_floorOf_19 : decode cX8_floorOf 19 = .ok (.goto 4, 3) := by decide +kernel
theorem dX8_floorOf_22 : decode cX8_floorOf 22 = .ok (.iconst 0, 1) := by decide +kernel
theorem dX8_floorOf_23 : decode cX8_floorOf 23 = .ok (.ireturn, 1) := by decide +kernel
theorem dX8_asked_0 : decode cX8_asked 0 = .ok (.iload_n 1, 1) := by decide +kernel
theorem dX8_asked_1 : decode cX8_asked 1 = .ok (.invokestatic 124, 3) := by decide +kernel
theorem dX8_asked_4 : decode cX8_asked 4 = .ok (.ifCond .ne 9, 3) := by decide +kernel
theorem dX8_asked_7 : decode cX8_asked 7 = .ok (.ldc2_w 87, 3) := by decide +kernel
theorem dX8_asked_10 : decode cX8_asked 10 = .ok (.goto 19, 3) := by decide +kernel
theorem dX8_asked_13 : decode cX8_asked 13 = .ok (.aload_n 0, 1) := by decide +kernel
theorem dX8_asked_14 : decode cX8_asked 14 = .ok (.getfield 30, 3) := by decide +kernel
theorem dX8_asked_17 : decode cX8_asked 17 = .ok (.iload_n 1, 1) := by decide +kernel
theorem dX8_asked_18 : decode cX8_asked 18 = .ok (.iaload, 1) := by decide +kernel
theorem dX8_asked_19 : decode cX8_asked 19 = .ok (.ifCond .ge 9, 3) := by decide +kernel
theorem dX8_asked_22 : decode cX8_asked 22 = .ok (.ldc2_w 108, 3) := by decide +kernel
theorem dX8_asked_25 : decode cX8_asked 25 = .ok (.goto 4, 3) := by decide +kernel
theorem dX8_asked_28 : decode cX8_asked 28 = .ok (.lconst 0, 1) := by decide +kernel
theorem dX8_asked_29 : decode cX8_asked 29 = .ok (.lreturn, 1) := by decide +kernel
theorem dX8_charge_0 : decode cX8_charge 0 = .ok (.aload_n 0, 1) := by decide +kernel
theorem dX8_charge_1 : decode cX8_charge 1 = .ok (.iload_n 1, 1) := by decide +kernel
theorem dX8_charge_2 : decode cX8_charge 2 = .ok (.invokevirtual 142, 3) := by decide +kernel
theorem dX8_charge_5 : decode cX8_charge 5 = .ok (.lstore_n 3, 1) := by decide +kernel
theorem dX8_charge_6 : decode cX8_charge 6 = .ok (.lload_n 3, 1) := by decide +kernel
theorem dX8_charge_7 : decode cX8_charge 7 = .ok (.lconst 0, 1) := by decide +kernel
theorem dX8_charge_8 : decode cX8_charge 8 = .ok (.lcmp, 1) := by decide +kernel
theorem dX8_charge_9 : decode cX8_charge 9 = .ok (.ifCond .eq 5, 3) := by decide +kernel
theorem dX8_charge_12 : decode cX8_charge 12 = .ok (.lload_n 3, 1) := by decide +kernel
theorem dX8_charge_13 : decode cX8_charge 13 = .ok (.lreturn, 1) := by decide +kernel
theorem dX8_charge_14 : decode cX8_charge 14 = .ok (.iload_n 2, 1) := by decide +kernel
theorem dX8_charge_15 : decode cX8_charge 15 = .ok (.i2l, 1) := by decide +kernel
theorem dX8_charge_16 : decode cX8_charge 16 = .ok (.aload_n 0, 1) := by decide +kernel
theorem dX8_charge_17 : decode cX8_charge 17 = .ok (.iload_n 1, 1) := by decide +kernel
theorem dX8_charge_18 : decode cX8_charge 18 = .ok (.invokevirtual 132, 3) := by decide +kernel
theorem dX8_charge_21 : decode cX8_charge 21 = .ok (.i2l, 1) := by decide +kernel
theorem dX8_charge_22 : decode cX8_charge 22 = .ok (.aload_n 0, 1) := by decide +kernel
theorem dX8_charge_23 : decode cX8_charge 23 = .ok (.iload_n 1, 1) := by decide +kernel
theorem dX8_charge_24 : decode cX8_charge 24 = .ok (.invokevirtual 146, 3) := by decide +kernel
theorem dX8_charge_27 : decode cX8_charge 27 = .ok (.i2l, 1) := by decide +kernel
theorem dX8_charge_28 : decode cX8_charge 28 = .ok (.invokestatic 81, 3) := by decide +kernel
theorem dX8_charge_31 : decode cX8_charge 31 = .ok (.ifCond .ne 7, 3) := by decide +kernel
theorem dX8_charge_34 : decode cX8_charge 34 = .ok (.ldc2_w 87, 3) := by decide +kernel
theorem dX8_charge_37 : decode cX8_charge 37 = .ok (.lreturn, 1) := by decide +kernel
theorem dX8_charge_38 : decode cX8_charge 38 = .ok (.aload_n 0, 1) := by decide +kernel
theorem dX8_charge_39 : decode cX8_charge 39 = .ok (.getfield 36, 3) := by decide +kernel
theorem dX8_charge_42 : decode cX8_charge 42 = .ok (.iload_n 1, 1) := by decide +kernel
theorem dX8_charge_43 : decode cX8_charge 43 = .ok (.iaload, 1) := by decide +kernel
theorem dX8_charge_44 : decode cX8_charge 44 = .ok (.i2l, 1) := by decide +kernel
theorem dX8_charge_45 : decode cX8_charge 45 = .ok (.lstore 5, 2) := by decide +kernel
theorem dX8_charge_47 : decode cX8_charge 47 = .ok (.aload_n 0, 1) := by decide +kernel
theorem dX8_charge_48 : decode cX8_charge 48 = .ok (.getfield 36, 3) := by decide +kernel
theorem dX8_charge_51 : decode cX8_charge 51 = .ok (.iload_n 1, 1) := by decide +kernel
theorem dX8_charge_52 : decode cX8_charge 52 = .ok (.iload_n 2, 1) := by decide +kernel
theorem dX8_charge_53 : decode cX8_charge 53 = .ok (.iastore, 1) := by decide +kernel
theorem dX8_charge_54 : decode cX8_charge 54 = .ok (.lload 5, 2) := by decide +kernel
theorem dX8_charge_56 : decode cX8_charge 56 = .ok (.lreturn, 1) := by decide +kernel
theorem dX8_end_0 : decode cX8_end 0 = .ok (.iload_n 1, 1) := by decide +kernel
theorem dX8_end_1 : decode cX8_end 1 = .ok (.invokestatic 124, 3) := by decide +kernel
theorem dX8_end_4 : decode cX8_end 4 = .ok (.ifCond .eq 15, 3) := by decide +kernel
theorem dX8_end_7 : decode cX8_end 7 = .ok (.iload_n 2, 1) := by decide +kernel
theorem dX8_end_8 : decode cX8_end 8 = .ok (.i2l, 1) := by decide +kernel
theorem dX8_end_9 : decode cX8_end 9 = .ok (.lconst 0, 1) := by decide +kernel
theorem dX8_end_10 : decode cX8_end 10 = .ok (.ldc2_w 129, 3) := by decide +kernel
theorem dX8_end_13 : decode cX8_end 13 = .ok (.invokestatic 81, 3) := by decide +kernel
theorem dX8_end_16 : decode cX8_end 16 = .ok (.ifCond .ne 7, 3) := by decide +kernel
theorem dX8_end_19 : decode cX8_end 19 = .ok (.ldc2_w 87, 3) := by decide +kernel
theorem dX8_end_22 : decode cX8_end 22 = .ok (.lreturn, 1) := by decide +kernel
theorem dX8_end_23 : decode cX8_end 23 = .ok (.aload_n 0, 1) := by decide +kernel
theorem dX8_end_24 : decode cX8_end 24 = .ok (.getfield 30, 3) := by decide +kernel
theorem dX8_end_27 : decode cX8_end 27 = .ok (.iload_n 1, 1) := by decide +kernel
theorem dX8_end_28 : decode cX8_end 28 = .ok (.iaload, 1) := by decide +kernel
theorem dX8_end_29 : decode cX8_end 29 = .ok (.ifCond .ge 7, 3) := by decide +kernel
theorem dX8_end_32 : decode cX8_end 32 = .ok (.ldc2_w 108, 3) := by decide +kernel
theorem dX8_end_35 : decode cX8_end 35 = .ok (.lreturn, 1) := by decide +kernel
theorem dX8_end_36 : decode cX8_end 36 = .ok (.aload_n 0, 1) := by decide +kernel
theorem dX8_end_37 : decode cX8_end 37 = .ok (.getfield 51, 3) := by decide +kernel
theorem dX8_end_40 : decode cX8_end 40 = .ok (.iload_n 1, 1) := by decide +kernel
theorem dX8_end_41 : decode cX8_end 41 = .ok (.iaload, 1) := by decide +kernel
theorem dX8_end_42 : decode cX8_end 42 = .ok (.i2l, 1) := by decide +kernel
theorem dX8_end_43 : decode cX8_end 43 = .ok (.lstore_n 3, 1) := by decide +kernel
theorem dX8_end_44 : decode cX8_end 44 = .ok (.aload_n 0, 1) := by decide +kernel
theorem dX8_end_45 : decode cX8_end 45 = .ok (.getfield 51, 3) := by decide +kernel
theorem dX8_end_48 : decode cX8_end 48 = .ok (.iload_n 1, 1) := by decide +kernel
theorem dX8_end_49 : decode cX8_end 49 = .ok (.iload_n 2, 1) := by decide +kernel
theorem dX8_end_50 : decode cX8_end 50 = .ok (.iastore, 1) := by decide +kernel
theorem dX8_end_51 : decode cX8_end 51 = .ok (.lload_n 3, 1) := by decide +kernel
theorem dX8_end_52 : decode cX8_end 52 = .ok (.lreturn, 1) := by decide +kernel
theorem dX8_about_0 : decode cX8_about 0 = .ok (.iload_n 1, 1) := by decide +kernel
theorem dX8_about_1 : decode cX8_about 1 = .ok (.invokestatic 124, 3) := by decide +kernel
theorem dX8_about_4 : decode cX8_about 4 = .ok (.ifCond .eq 15, 3) := by decide +kernel
theorem dX8_about_7 : decode cX8_about 7 = .ok (.iload_n 2, 1) := by decide +kernel
theorem dX8_about_8 : decode cX8_about 8 = .ok (.i2l, 1) := by decide +kernel
theorem dX8_about_9 : decode cX8_about 9 = .ok (.lconst 0, 1) := by decide +kernel
theorem dX8_about_10 : decode cX8_about 10 = .ok (.ldc2_w 94, 3) := by decide +kernel
theorem dX8_about_13 : decode cX8_about 13 = .ok (.invokestatic 81, 3) := by decide +kernel
theorem dX8_about_16 : decode cX8_about 16 = .ok (.ifCond .ne 7, 3) := by decide +kernel
theorem dX8_about_19 : decode cX8_about 19 = .ok (.ldc2_w 87, 3) := by decide +kernel
theorem dX8_about_22 : decode cX8_about 22 = .ok (.lreturn, 1) := by decide +kernel
theorem dX8_about_23 : decode cX8_about 23 = .ok (.aload_n 0, 1) := by decide +kernel
theorem dX8_about_24 : decode cX8_about 24 = .ok (.getfield 30, 3) := by decide +kernel
theorem dX8_about_27 : decode cX8_about 27 = .ok (.iload_n 1, 1) := by decide +kernel
theorem dX8_about_28 : decode cX8_about 28 = .ok (.iaload, 1) := by decide +kernel
theorem dX8_about_29 : decode cX8_about 29 = .ok (.ifCond .ge 7, 3) := by decide +kernel
theorem dX8_about_32 : decode cX8_about 32 = .ok (.ldc2_w 108, 3) := by decide +kernel
theorem dX8_about_35 : decode cX8_about 35 = .ok (.lreturn, 1) := by decide +kernel
theorem dX8_about_36 : decode cX8_about 36 = .ok (.iload_n 2, 1) := by decide +kernel
theorem dX8_about_37 : decode cX8_about 37 = .ok (.tableswitch 130 0 9 #[55, 63, 71, 79, 86, 93, 100, 108, 115, 122], 55) := by decide +kernel
theorem dX8_about_92 : decode cX8_about 92 = .ok (.aload_n 0, 1) := by decide +kernel
theorem dX8_about_93 : decode cX8_about 93 = .ok (.getfield 30, 3) := by decide +kernel
theorem dX8_about_96 : decode cX8_about 96 = .ok (.iload_n 1, 1) := by decide +kernel
theorem dX8_about_97 : decode cX8_about 97 = .ok (.iaload, 1) := by decide +kernel
theorem dX8_about_98 : decode cX8_about 98 = .ok (.i2l, 1) := by decide +kernel
theorem dX8_about_99 : decode cX8_about 99 = .ok (.lreturn, 1) := by decide +kernel
theorem dX8_about_100 : decode cX8_about 100 = .ok (.aload_n 0, 1) := by decide +kernel
theorem dX8_about_101 : decode cX8_about 101 = .ok (.getfield 33, 3) := by decide +kernel
theorem dX8_about_104 : decode cX8_about 104 = .ok (.iload_n 1, 1) := by decide +kernel
theorem dX8_about_105 : decode cX8_about 105 = .ok (.iaload, 1) := by decide +kernel
theorem dX8_about_106 : decode cX8_about 106 = .ok (.i2l, 1) := by decide +kernel
theorem dX8_about_107 : decode cX8_about 107 = .ok (.lreturn, 1) := by decide +kernel
theorem dX8_about_108 : decode cX8_about 108 = .ok (.aload_n 0, 1) := by decide +kernel
theorem dX8_about_109 : decode cX8_about 109 = .ok (.getfield 36, 3) := by decide +kernel
theorem dX8_about_112 : decode cX8_about 112 = .ok (.iload_n 1, 1) := by decide +kernel
theorem dX8_about_113 : decode cX8_about 113 = .ok (.iaload, 1) := by decide +kernel
theorem dX8_about_114 : decode cX8_about 114 = .ok (.i2l, 1) := by decide +kernel
theorem dX8_about_115 : decode cX8_about 115 = .ok (.lreturn, 1) := by decide +kernel
theorem dX8_about_116 : decode cX8_about 116 = .ok (.aload_n 0, 1) := by decide +kernel
theorem dX8_about_117 : decode cX8_about 117 = .ok (.iload_n 1, 1) := by decide +kernel
theorem dX8_about_118 : decode cX8_about 118 = .ok (.invokevirtual 149, 3) := by decide +kernel
end
section
theorem dX8_about_121 : decode cX8_about 121 = .ok (.i2l, 1) := by decide +kernel
theorem dX8_about_122 : decode cX8_about 122 = .ok (.lreturn, 1) := by decide +kernel
theorem dX8_about_123 : decode cX8_about 123 = .ok (.aload_n 0, 1) := by decide +kernel
theorem dX8_about_124 : decode cX8_about 124 = .ok (.iload_n 1, 1) := by decide +kernel
theorem dX8_about_125 : decode cX8_about 125 = .ok (.invokevirtual 152, 3) := by decide +kernel
theorem dX8_about_128 : decode cX8_about 128 = .ok (.i2l, 1) := by decide +kernel
theorem dX8_about_129 : decode cX8_about 129 = .ok (.lreturn, 1) := by decide +kernel
theorem dX8_about_130 : decode cX8_about 130 = .ok (.aload_n 0, 1) := by decide +kernel
theorem dX8_about_131 : decode cX8_about 131 = .ok (.iload_n 1, 1) := by decide +kernel
theorem dX8_about_132 : decode cX8_about 132 = .ok (.invokevirtual 155, 3) := by decide +kernel
theorem dX8_about_135 : decode cX8_about 135 = .ok (.i2l, 1) := by decide +kernel
theorem dX8_about_136 : decode cX8_about 136 = .ok (.lreturn, 1) := by decide +kernel
theorem dX8_about_137 : decode cX8_about 137 = .ok (.aload_n 0, 1) := by decide +kernel
theorem dX8_about_138 : decode cX8_about 138 = .ok (.getfield 48, 3) := by decide +kernel
theorem dX8_about_141 : decode cX8_about 141 = .ok (.iload_n 1, 1) := by decide +kernel
theorem dX8_about_142 : decode cX8_about 142 = .ok (.iaload, 1) := by decide +kernel
theorem dX8_about_143 : decode cX8_about 143 = .ok (.i2l, 1) := by decide +kernel
theorem dX8_about_144 : decode cX8_about 144 = .ok (.lreturn, 1) := by decide +kernel
theorem dX8_about_145 : decode cX8_about 145 = .ok (.aload_n 0, 1) := by decide +kernel
theorem dX8_about_146 : decode cX8_about 146 = .ok (.iload_n 1, 1) := by decide +kernel
theorem dX8_about_147 : decode cX8_about 147 = .ok (.invokevirtual 132, 3) := by decide +kernel
theorem dX8_about_150 : decode cX8_about 150 = .ok (.i2l, 1) := by decide +kernel
theorem dX8_about_151 : decode cX8_about 151 = .ok (.lreturn, 1) := by decide +kernel
theorem dX8_about_152 : decode cX8_about 152 = .ok (.aload_n 0, 1) := by decide +kernel
theorem dX8_about_153 : decode cX8_about 153 = .ok (.iload_n 1, 1) := by decide +kernel
theorem dX8_about_154 : decode cX8_about 154 = .ok (.invokevirtual 146, 3) := by decide +kernel
theorem dX8_about_157 : decode cX8_about 157 = .ok (.i2l, 1) := by decide +kernel
theorem dX8_about_158 : decode cX8_about 158 = .ok (.lreturn, 1) := by decide +kernel
theorem dX8_about_159 : decode cX8_about 159 = .ok (.aload_n 0, 1) := by decide +kernel
theorem dX8_about_160 : decode cX8_about 160 = .ok (.getfield 51, 3) := by decide +kernel
theorem dX8_about_163 : decode cX8_about 163 = .ok (.iload_n 1, 1) := by decide +kernel
theorem dX8_about_164 : decode cX8_about 164 = .ok (.iaload, 1) := by decide +kernel
theorem dX8_about_165 : decode cX8_about 165 = .ok (.i2l, 1) := by decide +kernel
theorem dX8_about_166 : decode cX8_about 166 = .ok (.lreturn, 1) := by decide +kernel
theorem dX8_about_167 : decode cX8_about 167 = .ok (.aload_n 0, 1) := by decide +kernel
theorem dX8_about_168 : decode cX8_about 168 = .ok (.getfield 54, 3) := by decide +kernel
theorem dX8_about_171 : decode cX8_about 171 = .ok (.iload_n 1, 1) := by decide +kernel
theorem dX8_about_172 : decode cX8_about 172 = .ok (.iaload, 1) := by decide +kernel
theorem dX8_about_173 : decode cX8_about 173 = .ok (.i2l, 1) := by decide +kernel
theorem dX8_about_174 : decode cX8_about 174 = .ok (.lreturn, 1) := by decide +kernel
theorem dX8_isOf_0 : decode cX8_isOf 0 = .ok (.iload_n 1, 1) := by decide +kernel
theorem dX8_isOf_1 : decode cX8_isOf 1 = .ok (.invokestatic 124, 3) := by decide +kernel
theorem dX8_isOf_4 : decode cX8_isOf 4 = .ok (.ifCond .eq 15, 3) := by decide +kernel
theorem dX8_isOf_7 : decode cX8_isOf 7 = .ok (.iload_n 2, 1) := by decide +kernel
theorem dX8_isOf_8 : decode cX8_isOf 8 = .ok (.i2l, 1) := by decide +kernel
theorem dX8_isOf_9 : decode cX8_isOf 9 = .ok (.lconst 0, 1) := by decide +kernel
theorem dX8_isOf_10 : decode cX8_isOf 10 = .ok (.ldc2_w 127, 3) := by decide +kernel
theorem dX8_isOf_13 : decode cX8_isOf 13 = .ok (.invokestatic 81, 3) := by decide +kernel
theorem dX8_isOf_16 : decode cX8_isOf 16 = .ok (.ifCond .ne 7, 3) := by decide +kernel
theorem dX8_isOf_19 : decode cX8_isOf 19 = .ok (.ldc2_w 87, 3) := by decide +kernel
theorem dX8_isOf_22 : decode cX8_isOf 22 = .ok (.lreturn, 1) := by decide +kernel
theorem dX8_isOf_23 : decode cX8_isOf 23 = .ok (.aload_n 0, 1) := by decide +kernel
theorem dX8_isOf_24 : decode cX8_isOf 24 = .ok (.getfield 30, 3) := by decide +kernel
theorem dX8_isOf_27 : decode cX8_isOf 27 = .ok (.iload_n 1, 1) := by decide +kernel
theorem dX8_isOf_28 : decode cX8_isOf 28 = .ok (.iaload, 1) := by decide +kernel
theorem dX8_isOf_29 : decode cX8_isOf 29 = .ok (.ifCond .ge 7, 3) := by decide +kernel
theorem dX8_isOf_32 : decode cX8_isOf 32 = .ok (.ldc2_w 108, 3) := by decide +kernel
theorem dX8_isOf_35 : decode cX8_isOf 35 = .ok (.lreturn, 1) := by decide +kernel
theorem dX8_isOf_36 : decode cX8_isOf 36 = .ok (.iload_n 2, 1) := by decide +kernel
theorem dX8_isOf_37 : decode cX8_isOf 37 = .ok (.ifCond .eq 39, 3) := by decide +kernel
theorem dX8_isOf_40 : decode cX8_isOf 40 = .ok (.aload_n 0, 1) := by decide +kernel
theorem dX8_isOf_41 : decode cX8_isOf 41 = .ok (.getfield 30, 3) := by decide +kernel
theorem dX8_isOf_44 : decode cX8_isOf 44 = .ok (.iload_n 1, 1) := by decide +kernel
theorem dX8_isOf_45 : decode cX8_isOf 45 = .ok (.iaload, 1) := by decide +kernel
theorem dX8_isOf_46 : decode cX8_isOf 46 = .ok (.iload_n 2, 1) := by decide +kernel
theorem dX8_isOf_47 : decode cX8_isOf 47 = .ok (.if_icmp .eq 29, 3) := by decide +kernel
theorem dX8_isOf_50 : decode cX8_isOf 50 = .ok (.iload_n 2, 1) := by decide +kernel
theorem dX8_isOf_51 : decode cX8_isOf 51 = .ok (.iconst 1, 1) := by decide +kernel
theorem dX8_isOf_52 : decode cX8_isOf 52 = .ok (.if_icmp .ne 11, 3) := by decide +kernel
theorem dX8_isOf_55 : decode cX8_isOf 55 = .ok (.aload_n 0, 1) := by decide +kernel
theorem dX8_isOf_56 : decode cX8_isOf 56 = .ok (.iload_n 1, 1) := by decide +kernel
theorem dX8_isOf_57 : decode cX8_isOf 57 = .ok (.invokevirtual 136, 3) := by decide +kernel
theorem dX8_isOf_60 : decode cX8_isOf 60 = .ok (.ifCond .ne 16, 3) := by decide +kernel
theorem dX8_isOf_63 : decode cX8_isOf 63 = .ok (.iload_n 2, 1) := by decide +kernel
theorem dX8_isOf_64 : decode cX8_isOf 64 = .ok (.iconst 3, 1) := by decide +kernel
theorem dX8_isOf_65 : decode cX8_isOf 65 = .ok (.if_icmp .ne 15, 3) := by decide +kernel
theorem dX8_isOf_68 : decode cX8_isOf 68 = .ok (.aload_n 0, 1) := by decide +kernel
theorem dX8_isOf_69 : decode cX8_isOf 69 = .ok (.iload_n 1, 1) := by decide +kernel
theorem dX8_isOf_70 : decode cX8_isOf 70 = .ok (.invokevirtual 139, 3) := by decide +kernel
theorem dX8_isOf_73 : decode cX8_isOf 73 = .ok (.ifCond .eq 7, 3) := by decide +kernel
theorem dX8_isOf_76 : decode cX8_isOf 76 = .ok (.iconst 1, 1) := by decide +kernel
theorem dX8_isOf_77 : decode cX8_isOf 77 = .ok (.goto 4, 3) := by decide +kernel
theorem dX8_isOf_80 : decode cX8_isOf 80 = .ok (.iconst 0, 1) := by decide +kernel
theorem dX8_isOf_81 : decode cX8_isOf 81 = .ok (.istore_n 3, 1) := by decide +kernel
theorem dX8_isOf_82 : decode cX8_isOf 82 = .ok (.iload_n 3, 1) := by decide +kernel
theorem dX8_isOf_83 : decode cX8_isOf 83 = .ok (.ifCond .eq 7, 3) := by decide +kernel
theorem dX8_isOf_86 : decode cX8_isOf 86 = .ok (.lconst 1, 1) := by decide +kernel
theorem dX8_isOf_87 : decode cX8_isOf 87 = .ok (.goto 4, 3) := by decide +kernel
theorem dX8_isOf_90 : decode cX8_isOf 90 = .ok (.lconst 0, 1) := by decide +kernel
theorem dX8_isOf_91 : decode cX8_isOf 91 = .ok (.lreturn, 1) := by decide +kernel
theorem dX8_put_0 : decode cX8_put 0 = .ok (.aload_n 0, 1) := by decide +kernel
theorem dX8_put_1 : decode cX8_put 1 = .ok (.iload_n 1, 1) := by decide +kernel
theorem dX8_put_2 : decode cX8_put 2 = .ok (.invokevirtual 142, 3) := by decide +kernel
theorem dX8_put_5 : decode cX8_put 5 = .ok (.lstore 4, 2) := by decide +kernel
theorem dX8_put_7 : decode cX8_put 7 = .ok (.lload 4, 2) := by decide +kernel
theorem dX8_put_9 : decode cX8_put 9 = .ok (.lconst 0, 1) := by decide +kernel
theorem dX8_put_10 : decode cX8_put 10 = .ok (.lcmp, 1) := by decide +kernel
theorem dX8_put_11 : decode cX8_put 11 = .ok (.ifCond .eq 6, 3) := by decide +kernel
theorem dX8_put_14 : decode cX8_put 14 = .ok (.lload 4, 2) := by decide +kernel
theorem dX8_put_16 : decode cX8_put 16 = .ok (.lreturn, 1) := by decide +kernel
theorem dX8_put_17 : decode cX8_put 17 = .ok (.aload_n 0, 1) := by decide +kernel
theorem dX8_put_18 : decode cX8_put 18 = .ok (.iload_n 2, 1) := by decide +kernel
theorem dX8_put_19 : decode cX8_put 19 = .ok (.invokevirtual 158, 3) := by decide +kernel
theorem dX8_put_22 : decode cX8_put 22 = .ok (.ifCond .ne 7, 3) := by decide +kernel
theorem dX8_put_25 : decode cX8_put 25 = .ok (.ldc2_w 106, 3) := by decide +kernel
theorem dX8_put_28 : decode cX8_put 28 = .ok (.lreturn, 1) := by decide +kernel
theorem dX8_put_29 : decode cX8_put 29 = .ok (.iload_n 3, 1) := by decide +kernel
theorem dX8_put_30 : decode cX8_put 30 = .ok (.i2l, 1) := by decide +kernel
theorem dX8_put_31 : decode cX8_put 31 = .ok (.ldc2_w 161, 3) := by decide +kernel
theorem dX8_put_34 : decode cX8_put 34 = .ok (.ldc2_w 163, 3) := by decide +kernel
theorem dX8_put_37 : decode cX8_put 37 = .ok (.invokestatic 81, 3) := by decide +kernel
theorem dX8_put_40 : decode cX8_put 40 = .ok (.ifCond .ne 7, 3) := by decide +kernel
theorem dX8_put_43 : decode cX8_put 43 = .ok (.ldc2_w 87, 3) := by decide +kernel
theorem dX8_put_46 : decode cX8_put 46 = .ok (.lreturn, 1) := by decide +kernel
theorem dX8_put_47 : decode cX8_put 47 = .ok (.aload_n 0, 1) := by decide +kernel
theorem dX8_put_48 : decode cX8_put 48 = .ok (.getfield 57, 3) := by decide +kernel
theorem dX8_put_51 : decode cX8_put 51 = .ok (.bipush 36, 2) := by decide +kernel
theorem dX8_put_53 : decode cX8_put 53 = .ok (.iload_n 1, 1) := by decide +kernel
theorem dX8_put_54 : decode cX8_put 54 = .ok (.imul, 1) := by decide +kernel
theorem dX8_put_55 : decode cX8_put 55 = .ok (.iload_n 2, 1) := by decide +kernel
theorem dX8_put_56 : decode cX8_put 56 = .ok (.iadd, 1) := by decide +kernel
theorem dX8_put_57 : decode cX8_put 57 = .ok (.iaload, 1) := by decide +kernel
theorem dX8_put_58 : decode cX8_put 58 = .ok (.i2l, 1) := by decide +kernel
theorem dX8_put_59 : decode cX8_put 59 = .ok (.lstore 6, 2) := by decide +kernel
theorem dX8_put_61 : decode cX8_put 61 = .ok (.aload_n 0, 1) := by decide +kernel
theorem dX8_put_62 : decode cX8_put 62 = .ok (.getfield 57, 3) := by decide +kernel
theorem dX8_put_65 : decode cX8_put 65 = .ok (.bipush 36, 2) := by decide +kernel
theorem dX8_put_67 : decode cX8_put 67 = .ok (.iload_n 1, 1) := by decide +kernel
theorem dX8_put_68 : decode cX8_put 68 = .ok (.imul, 1) := by decide +kernel
theorem dX8_put_69 : decode cX8_put 69 = .ok (.iload_n 2, 1) := by decide +kernel
theorem dX8_put_70 : decode cX8_put 70 = .ok (.iadd, 1) := by decide +kernel
theorem dX8_put_71 : decode cX8_put 71 = .ok (.iload_n 3, 1) := by decide +kernel
theorem dX8_put_72 : decode cX8_put 72 = .ok (.iastore, 1) := by decide +kernel
theorem dX8_put_73 : decode cX8_put 73 = .ok (.lload 6, 2) := by decide +kernel
theorem dX8_put_75 : decode cX8_put 75 = .ok (.lreturn, 1) := by decide +kernel
theorem dX8_planned_0 : decode cX8_planned 0 = .ok (.aload_n 0, 1) := by decide +kernel
theorem dX8_planned_1 : decode cX8_planned 1 = .ok (.iload_n 1, 1) := by decide +kernel
theorem dX8_planned_2 : decode cX8_planned 2 = .ok (.invokevirtual 142, 3) := by decide +kernel
theorem dX8_planned_5 : decode cX8_planned 5 = .ok (.lstore_n 3, 1) := by decide +kernel
theorem dX8_planned_6 : decode cX8_planned 6 = .ok (.lload_n 3, 1) := by decide +kernel
theorem dX8_planned_7 : decode cX8_planned 7 = .ok (.lconst 0, 1) := by decide +kernel
theorem dX8_planned_8 : decode cX8_planned 8 = .ok (.lcmp, 1) := by decide +kernel
theorem dX8_planned_9 : decode cX8_planned 9 = .ok (.ifCond .eq 5, 3) := by decide +kernel
theorem dX8_planned_12 : decode cX8_planned 12 = .ok (.lload_n 3, 1) := by decide +kernel
theorem dX8_planned_13 : decode cX8_planned 13 = .ok (.lreturn, 1) := by decide +kernel
theorem dX8_planned_14 : decode cX8_planned 14 = .ok (.aload_n 0, 1) := by decide +kernel
theorem dX8_planned_15 : decode cX8_planned 15 = .ok (.iload_n 2, 1) := by decide +kernel
theorem dX8_planned_16 : decode cX8_planned 16 = .ok (.invokevirtual 158, 3) := by decide +kernel
theorem dX8_planned_19 : decode cX8_planned 19 = .ok (.ifCond .eq 18, 3) := by decide +kernel
theorem dX8_planned_22 : decode cX8_planned 22 = .ok (.aload_n 0, 1) := by decide +kernel
theorem dX8_planned_23 : decode cX8_planned 23 = .ok (.getfield 57, 3) := by decide +kernel
theorem dX8_planned_26 : decode cX8_planned 26 = .ok (.bipush 36, 2) := by decide +kernel
theorem dX8_planned_28 : decode cX8_planned 28 = .ok (.iload_n 1, 1) := by decide +kernel
theorem dX8_planned_29 : decode cX8_planned 29 = .ok (.imul, 1) := by decide +kernel
theorem dX8_planned_30 : decode cX8_planned 30 = .ok (.iload_n 2, 1) := by decide +kernel
theorem dX8_planned_31 : decode cX8_planned 31 = .ok (.iadd, 1) := by decide +kernel
theorem dX8_planned_32 : decode cX8_planned 32 = .ok (.iaload, 1) := by decide +kernel
theorem dX8_planned_33 : decode cX8_planned 33 = .ok (.i2l, 1) := by decide +kernel
theorem dX8_planned_34 : decode cX8_planned 34 = .ok (.goto 6, 3) := by decide +kernel
theorem dX8_planned_37 : decode cX8_planned 37 = .ok (.ldc2_w 106, 3) := by decide +kernel
theorem dX8_planned_40 : decode cX8_planned 40 = .ok (.lreturn, 1) := by decide +kernel
theorem dX8_behindOf_0 : decode cX8_behindOf 0 = .ok (.aload_n 0, 1) := by decide +kernel
theorem dX8_behindOf_1 : decode cX8_behindOf 1 = .ok (.getfield 36, 3) := by decide +kernel
theorem dX8_behindOf_4 : decode cX8_behindOf 4 = .ok (.iload_n 1, 1) := by decide +kernel
theorem dX8_behindOf_5 : decode cX8_behindOf 5 = .ok (.iaload, 1) := by decide +kernel
theorem dX8_behindOf_6 : decode cX8_behindOf 6 = .ok (.istore_n 3, 1) := by decide +kernel
theorem dX8_behindOf_7 : decode cX8_behindOf 7 = .ok (.iconst 0, 1) := by decide +kernel
theorem dX8_behindOf_8 : decode cX8_behindOf 8 = .ok (.istore 4, 2) := by decide +kernel
theorem dX8_behindOf_10 : decode cX8_behindOf 10 = .ok (.iload 4, 2) := by decide +kernel
theorem dX8_behindOf_12 : decode cX8_behindOf 12 = .ok (.iload_n 2, 1) := by decide +kernel
theorem dX8_behindOf_13 : decode cX8_behindOf 13 = .ok (.if_icmp .gt 24, 3) := by decide +kernel
theorem dX8_behindOf_16 : decode cX8_behindOf 16 = .ok (.iload_n 3, 1) := by decide +kernel
theorem dX8_behindOf_17 : decode cX8_behindOf 17 = .ok (.aload_n 0, 1) := by decide +kernel
theorem dX8_behindOf_18 : decode cX8_behindOf 18 = .ok (.getfield 57, 3) := by decide +kernel
theorem dX8_behindOf_21 : decode cX8_behindOf 21 = .ok (.bipush 36, 2) := by decide +kernel
theorem dX8_behindOf_23 : decode cX8_behindOf 23 = .ok (.iload_n 1, 1) := by decide +kernel
theorem dX8_behindOf_24 : decode cX8_behindOf 24 = .ok (.imul, 1) := by decide +kernel
theorem dX8_behindOf_25 : decode cX8_behindOf 25 = .ok (.iload 4, 2) := by decide +kernel
theorem dX8_behindOf_27 : decode cX8_behindOf 27 = .ok (.iadd, 1) := by decide +kernel
theorem dX8_behindOf_28 : decode cX8_behindOf 28 = .ok (.iaload, 1) := by decide +kernel
theorem dX8_behindOf_29 : decode cX8_behindOf 29 = .ok (.iadd, 1) := by decide +kernel
theorem dX8_behindOf_30 : decode cX8_behindOf 30 = .ok (.istore_n 3, 1) := by decide +kernel
theorem dX8_behindOf_31 : decode cX8_behindOf 31 = .ok (.iinc 4 1, 3) := by decide +kernel
theorem dX8_behindOf_34 : decode cX8_behindOf 34 = .ok (.goto (-24), 3) := by decide +kernel
theorem dX8_behindOf_37 : decode cX8_behindOf 37 = .ok (.iload_n 3, 1) := by decide +kernel
theorem dX8_behindOf_38 : decode cX8_behindOf 38 = .ok (.ireturn, 1) := by decide +kernel
theorem dX8_behind_0 : decode cX8_behind 0 = .ok (.aload_n 0, 1) := by decide +kernel
theorem dX8_behind_1 : decode cX8_behind 1 = .ok (.iload_n 1, 1) := by decide +kernel
theorem dX8_behind_2 : decode cX8_behind 2 = .ok (.invokevirtual 142, 3) := by decide +kernel
theorem dX8_behind_5 : decode cX8_behind 5 = .ok (.lstore_n 3, 1) := by decide +kernel
theorem dX8_behind_6 : decode cX8_behind 6 = .ok (.lload_n 3, 1) := by decide +kernel
theorem dX8_behind_7 : decode cX8_behind 7 = .ok (.lconst 0, 1) := by decide +kernel
theorem dX8_behind_8 : decode cX8_behind 8 = .ok (.lcmp, 1) := by decide +kernel
theorem dX8_behind_9 : decode cX8_behind 9 = .ok (.ifCond .eq 5, 3) := by decide +kernel
theorem dX8_behind_12 : decode cX8_behind 12 = .ok (.lload_n 3, 1) := by decide +kernel
theorem dX8_behind_13 : decode cX8_behind 13 = .ok (.lreturn, 1) := by decide +kernel
theorem dX8_behind_14 : decode cX8_behind 14 = .ok (.iload_n 2, 1) := by decide +kernel
theorem dX8_behind_15 : decode cX8_behind 15 = .ok (.iconst (-1), 1) := by decide +kernel
theorem dX8_behind_16 : decode cX8_behind 16 = .ok (.if_icmp .eq 11, 3) := by decide +kernel
theorem dX8_behind_19 : decode cX8_behind 19 = .ok (.aload_n 0, 1) := by decide +kernel
theorem dX8_behind_20 : decode cX8_behind 20 = .ok (.iload_n 2, 1) := by decide +kernel
theorem dX8_behind_21 : decode cX8_behind 21 = .ok (.invokevirtual 158, 3) := by decide +kernel
theorem dX8_behind_24 : decode cX8_behind 24 = .ok (.ifCond .eq 13, 3) := by decide +kernel
theorem dX8_behind_27 : decode cX8_behind 27 = .ok (.aload_n 0, 1) := by decide +kernel
theorem dX8_behind_28 : decode cX8_behind 28 = .ok (.iload_n 1, 1) := by decide +kernel
theorem dX8_behind_29 : decode cX8_behind 29 = .ok (.iload_n 2, 1) := by decide +kernel
theorem dX8_behind_30 : decode cX8_behind 30 = .ok (.invokevirtual 165, 3) := by decide +kernel
theorem dX8_behind_33 : decode cX8_behind 33 = .ok (.i2l, 1) := by decide +kernel
theorem dX8_behind_34 : decode cX8_behind 34 = .ok (.goto 6, 3) := by decide +kernel
theorem dX8_behind_37 : decode cX8_behind 37 = .ok (.ldc2_w 106, 3) := by decide +kernel
theorem dX8_behind_40 : decode cX8_behind 40 = .ok (.lreturn, 1) := by decide +kernel
theorem dX8_fault_0 : decode cX8_fault 0 = .ok (.aload_n 0, 1) := by decide +kernel
theorem dX8_fault_1 : decode cX8_fault 1 = .ok (.iload_n 2, 1) := by decide +kernel
theorem dX8_fault_2 : decode cX8_fault 2 = .ok (.invokevirtual 168, 3) := by decide +kernel
theorem dX8_fault_5 : decode cX8_fault 5 = .ok (.istore 5, 2) := by decide +kernel
theorem dX8_fault_7 : decode cX8_fault 7 = .ok (.aload_n 0, 1) := by decide +kernel
theorem dX8_fault_8 : decode cX8_fault 8 = .ok (.getfield 13, 3) := by decide +kernel
theorem dX8_fault_11 : decode cX8_fault 11 = .ok (.iload_n 2, 1) := by decide +kernel
theorem dX8_fault_12 : decode cX8_fault 12 = .ok (.baload, 1) := by decide +kernel
theorem dX8_fault_13 : decode cX8_fault 13 = .ok (.ifCond .eq 9, 3) := by decide +kernel
theorem dX8_fault_16 : decode cX8_fault 16 = .ok (.iload_n 3, 1) := by decide +kernel
theorem dX8_fault_17 : decode cX8_fault 17 = .ok (.ifCond .eq 5, 3) := by decide +kernel
theorem dX8_fault_20 : decode cX8_fault 20 = .ok (.iconst 1, 1) := by decide +kernel
theorem dX8_fault_21 : decode cX8_fault 21 = .ok (.ireturn, 1) := by decide +kernel
theorem dX8_fault_22 : decode cX8_fault 22 = .ok (.iload_n 3, 1) := by decide +kernel
theorem dX8_fault_23 : decode cX8_fault 23 = .ok (.ifCond .eq 29, 3) := by decide +kernel
theorem dX8_fault_26 : decode cX8_fault 26 = .ok (.iload_n 3, 1) := by decide +kernel
theorem dX8_fault_27 : decode cX8_fault 27 = .ok (.aload_n 0, 1) := by decide +kernel
theorem dX8_fault_28 : decode cX8_fault 28 = .ok (.iload_n 1, 1) := by decide +kernel
theorem dX8_fault_29 : decode cX8_fault 29 = .ok (.invokevirtual 149, 3) := by decide +kernel
theorem dX8_fault_32 : decode cX8_fault 32 = .ok (.iload 5, 2) := by decide +kernel
theorem dX8_fault_34 : decode cX8_fault 34 = .ok (.isub, 1) := by decide +kernel
theorem dX8_fault_35 : decode cX8_fault 35 = .ok (.if_icmp .gt 15, 3) := by decide +kernel
theorem dX8_fault_38 : decode cX8_fault 38 = .ok (.iload_n 3, 1) := by decide +kernel
theorem dX8_fault_39 : decode cX8_fault 39 = .ok (.iload 5, 2) := by decide +kernel
theorem dX8_fault_41 : decode cX8_fault 41 = .ok (.aload_n 0, 1) := by decide +kernel
theorem dX8_fault_42 : decode cX8_fault 42 = .ok (.iload_n 1, 1) := by decide +kernel
theorem dX8_fault_43 : decode cX8_fault 43 = .ok (.invokevirtual 152, 3) := by decide +kernel
theorem dX8_fault_46 : decode cX8_fault 46 = .ok (.isub, 1) := by decide +kernel
theorem dX8_fault_47 : decode cX8_fault 47 = .ok (.if_icmp .ge 5, 3) := by decide +kernel
theorem dX8_fault_50 : decode cX8_fault 50 = .ok (.iconst 2, 1) := by decide +kernel
theorem dX8_fault_51 : decode cX8_fault 51 = .ok (.ireturn, 1) := by decide +kernel
theorem dX8_fault_52 : decode cX8_fault 52 = .ok (.iload 4, 2) := by decide +kernel
theorem dX8_fault_54 : decode cX8_fault 54 = .ok (.aload_n 0, 1) := by decide +kernel
theorem dX8_fault_55 : decode cX8_fault 55 = .ok (.iload_n 1, 1) := by decide +kernel
theorem dX8_fault_56 : decode cX8_fault 56 = .ok (.invokevirtual 132, 3) := by decide +kernel
theorem dX8_fault_59 : decode cX8_fault 59 = .ok (.iload 5, 2) := by decide +kernel
theorem dX8_fault_61 : decode cX8_fault 61 = .ok (.iadd, 1) := by decide +kernel
theorem dX8_fault_62 : decode cX8_fault 62 = .ok (.if_icmp .ge 5, 3) := by decide +kernel
theorem dX8_fault_65 : decode cX8_fault 65 = .ok (.iconst 3, 1) := by decide +kernel
theorem dX8_fault_66 : decode cX8_fault 66 = .ok (.ireturn, 1) := by decide +kernel
theorem dX8_fault_67 : decode cX8_fault 67 = .ok (.iload 4, 2) := by decide +kernel
theorem dX8_fault_69 : decode cX8_fault 69 = .ok (.aload_n 0, 1) := by decide +kernel
theorem dX8_fault_70 : decode cX8_fault 70 = .ok (.iload_n 1, 1) := by decide +kernel
theorem dX8_fault_71 : decode cX8_fault 71 = .ok (.invokevirtual 146, 3) := by decide +kernel
theorem dX8_fault_74 : decode cX8_fault 74 = .ok (.iload 5, 2) := by decide +kernel
theorem dX8_fault_76 : decode cX8_fault 76 = .ok (.isub, 1) := by decide +kernel
theorem dX8_fault_77 : decode cX8_fault 77 = .ok (.if_icmp .le 5, 3) := by decide +kernel
theorem dX8_fault_80 : decode cX8_fault 80 = .ok (.iconst 4, 1) := by decide +kernel
theorem dX8_fault_81 : decode cX8_fault 81 = .ok (.ireturn, 1) := by decide +kernel
theorem dX8_fault_82 : decode cX8_fault 82 = .ok (.iload_n 2, 1) := by decide +kernel
theorem dX8_fault_83 : decode cX8_fault 83 = .ok (.aload_n 0, 1) := by decide +kernel
theorem dX8_fault_84 : decode cX8_fault 84 = .ok (.getfield 7, 3) := by decide +kernel
theorem dX8_fault_87 : decode cX8_fault 87 = .ok (.iconst 1, 1) := by decide +kernel
theorem dX8_fault_88 : decode cX8_fault 88 = .ok (.isub, 1) := by decide +kernel
theorem dX8_fault_89 : decode cX8_fault 89 = .ok (.if_icmp .ne 18, 3) := by decide +kernel
theorem dX8_fault_92 : decode cX8_fault 92 = .ok (.iload 4, 2) := by decide +kernel
theorem dX8_fault_94 : decode cX8_fault 94 = .ok (.aload_n 0, 1) := by decide +kernel
theorem dX8_fault_95 : decode cX8_fault 95 = .ok (.getfield 51, 3) := by decide +kernel
theorem dX8_fault_98 : decode cX8_fault 98 = .ok (.iload_n 1, 1) := by decide +kernel
theorem dX8_fault_99 : decode cX8_fault 99 = .ok (.iaload, 1) := by decide +kernel
theorem dX8_fault_100 : decode cX8_fault 100 = .ok (.if_icmp .ge 7, 3) := by decide +kernel
theorem dX8_fault_103 : decode cX8_fault 103 = .ok (.iconst 5, 1) := by decide +kernel
theorem dX8_fault_104 : decode cX8_fault 104 = .ok (.goto 4, 3) := by decide +kernel
theorem dX8_fault_107 : decode cX8_fault 107 = .ok (.iconst 0, 1) := by decide +kernel
theorem dX8_fault_108 : decode cX8_fault 108 = .ok (.ireturn, 1) := by decide +kernel
theorem dX8_whyNot_0 : decode cX8_whyNot 0 = .ok (.iconst 0, 1) := by decide +kernel
theorem dX8_whyNot_1 : decode cX8_whyNot 1 = .ok (.istore_n 2, 1) := by decide +kernel
theorem dX8_whyNot_2 : decode cX8_whyNot 2 = .ok (.iload_n 2, 1) := by decide +kernel
theorem dX8_whyNot_3 : decode cX8_whyNot 3 = .ok (.aload_n 0, 1) := by decide +kernel
theorem dX8_whyNot_4 : decode cX8_whyNot 4 = .ok (.getfield 7, 3) := by decide +kernel
theorem dX8_whyNot_7 : decode cX8_whyNot 7 = .ok (.if_icmp .ge 47, 3) := by decide +kernel
theorem dX8_whyNot_10 : decode cX8_whyNot 10 = .ok (.aload_n 0, 1) := by decide +kernel
theorem dX8_whyNot_11 : decode cX8_whyNot 11 = .ok (.iload_n 1, 1) := by decide +kernel
theorem dX8_whyNot_12 : decode cX8_whyNot 12 = .ok (.iload_n 2, 1) := by decide +kernel
theorem dX8_whyNot_13 : decode cX8_whyNot 13 = .ok (.aload_n 0, 1) := by decide +kernel
theorem dX8_whyNot_14 : decode cX8_whyNot 14 = .ok (.getfield 57, 3) := by decide +kernel
theorem dX8_whyNot_17 : decode cX8_whyNot 17 = .ok (.bipush 36, 2) := by decide +kernel
theorem dX8_whyNot_19 : decode cX8_whyNot 19 = .ok (.iload_n 1, 1) := by decide +kernel
theorem dX8_whyNot_20 : decode cX8_whyNot 20 = .ok (.imul, 1) := by decide +kernel
theorem dX8_whyNot_21 : decode cX8_whyNot 21 = .ok (.iload_n 2, 1) := by decide +kernel
theorem dX8_whyNot_22 : decode cX8_whyNot 22 = .ok (.iadd, 1) := by decide +kernel
theorem dX8_whyNot_23 : decode cX8_whyNot 23 = .ok (.iaload, 1) := by decide +kernel
theorem dX8_whyNot_24 : decode cX8_whyNot 24 = .ok (.aload_n 0, 1) := by decide +kernel
theorem dX8_whyNot_25 : decode cX8_whyNot 25 = .ok (.iload_n 1, 1) := by decide +kernel
theorem dX8_whyNot_26 : decode cX8_whyNot 26 = .ok (.iload_n 2, 1) := by decide +kernel
theorem dX8_whyNot_27 : decode cX8_whyNot 27 = .ok (.invokevirtual 165, 3) := by decide +kernel
theorem dX8_whyNot_30 : decode cX8_whyNot 30 = .ok (.invokevirtual 171, 3) := by decide +kernel
theorem dX8_whyNot_33 : decode cX8_whyNot 33 = .ok (.istore_n 3, 1) := by decide +kernel
theorem dX8_whyNot_34 : decode cX8_whyNot 34 = .ok (.iload_n 3, 1) := by decide +kernel
theorem dX8_whyNot_35 : decode cX8_whyNot 35 = .ok (.ifCond .eq 13, 3) := by decide +kernel
theorem dX8_whyNot_38 : decode cX8_whyNot 38 = .ok (.ldc2_w 94, 3) := by decide +kernel
theorem dX8_whyNot_41 : decode cX8_whyNot 41 = .ok (.iload_n 2, 1) := by decide +kernel
theorem dX8_whyNot_42 : decode cX8_whyNot 42 = .ok (.i2l, 1) := by decide +kernel
theorem dX8_whyNot_43 : decode cX8_whyNot 43 = .ok (.lmul, 1) := by decide +kernel
theorem dX8_whyNot_44 : decode cX8_whyNot 44 = .ok (.iload_n 3, 1) := by decide +kernel
theorem dX8_whyNot_45 : decode cX8_whyNot 45 = .ok (.i2l, 1) := by decide +kernel
theorem dX8_whyNot_46 : decode cX8_whyNot 46 = .ok (.ladd, 1) := by decide +kernel
theorem dX8_whyNot_47 : decode cX8_whyNot 47 = .ok (.lreturn, 1) := by decide +kernel
theorem dX8_whyNot_48 : decode cX8_whyNot 48 = .ok (.iinc 2 1, 3) := by decide +kernel
theorem dX8_whyNot_51 : decode cX8_whyNot 51 = .ok (.goto (-49), 3) := by decide +kernel
theorem dX8_whyNot_54 : decode cX8_whyNot 54 = .ok (.ldc2_w 175, 3) := by decide +kernel
theorem dX8_whyNot_57 : decode cX8_whyNot 57 = .ok (.lreturn, 1) := by decide +kernel
theorem dX8_why_0 : decode cX8_why 0 = .ok (.aload_n 0, 1) := by decide +kernel
theorem dX8_why_1 : decode cX8_why 1 = .ok (.iload_n 1, 1) := by decide +kernel
theorem dX8_why_2 : decode cX8_why 2 = .ok (.invokevirtual 142, 3) := by decide +kernel
theorem dX8_why_5 : decode cX8_why 5 = .ok (.lstore_n 2, 1) := by decide +kernel
theorem dX8_why_6 : decode cX8_why 6 = .ok (.lload_n 2, 1) := by decide +kernel
theorem dX8_why_7 : decode cX8_why 7 = .ok (.lconst 0, 1) := by decide +kernel
theorem dX8_why_8 : decode cX8_why 8 = .ok (.lcmp, 1) := by decide +kernel
theorem dX8_why_9 : decode cX8_why 9 = .ok (.ifCond .eq 7, 3) := by decide +kernel
theorem dX8_why_12 : decode cX8_why 12 = .ok (.lload_n 2, 1) := by decide +kernel
theorem dX8_why_13 : decode cX8_why 13 = .ok (.goto 8, 3) := by decide +kernel
theorem dX8_why_16 : decode cX8_why 16 = .ok (.aload_n 0, 1) := by decide +kernel
theorem dX8_why_17 : decode cX8_why 17 = .ok (.iload_n 1, 1) := by decide +kernel
theorem dX8_why_18 : decode cX8_why 18 = .ok (.invokevirtual 177, 3) := by decide +kernel
theorem dX8_why_21 : decode cX8_why 21 = .ok (.lreturn, 1) := by decide +kernel
theorem dX8_moneyOf_0 : decode cX8_moneyOf 0 = .ok (.iload_n 2, 1) := by decide +kernel
theorem dX8_moneyOf_1 : decode cX8_moneyOf 1 = .ok (.ifCond .le 24, 3) := by decide +kernel
theorem dX8_moneyOf_4 : decode cX8_moneyOf 4 = .ok (.iload_n 3, 1) := by decide +kernel
theorem dX8_moneyOf_5 : decode cX8_moneyOf 5 = .ok (.i2l, 1) := by decide +kernel
theorem dX8_moneyOf_6 : decode cX8_moneyOf 6 = .ok (.lneg, 1) := by decide +kernel
theorem dX8_moneyOf_7 : decode cX8_moneyOf 7 = .ok (.iload_n 2, 1) := by decide +kernel
theorem dX8_moneyOf_8 : decode cX8_moneyOf 8 = .ok (.iload_n 2, 1) := by decide +kernel
theorem dX8_moneyOf_9 : decode cX8_moneyOf 9 = .ok (.aload_n 0, 1) := by decide +kernel
theorem dX8_moneyOf_10 : decode cX8_moneyOf 10 = .ok (.iload_n 1, 1) := by decide +kernel
theorem dX8_moneyOf_11 : decode cX8_moneyOf 11 = .ok (.invokevirtual 155, 3) := by decide +kernel
theorem dX8_moneyOf_14 : decode cX8_moneyOf 14 = .ok (.imul, 1) := by decide +kernel
theorem dX8_moneyOf_15 : decode cX8_moneyOf 15 = .ok (.bipush 99, 2) := by decide +kernel
theorem dX8_moneyOf_17 : decode cX8_moneyOf 17 = .ok (.iadd, 1) := by decide +kernel
theorem dX8_moneyOf_18 : decode cX8_moneyOf 18 = .ok (.bipush 100, 2) := by decide +kernel
theorem dX8_moneyOf_20 : decode cX8_moneyOf 20 = .ok (.idiv, 1) := by decide +kernel
theorem dX8_moneyOf_21 : decode cX8_moneyOf 21 = .ok (.iadd, 1) := by decide +kernel
theorem dX8_moneyOf_22 : decode cX8_moneyOf 22 = .ok (.i2l, 1) := by decide +kernel
theorem dX8_moneyOf_23 : decode cX8_moneyOf 23 = .ok (.lmul, 1) := by decide +kernel
theorem dX8_moneyOf_24 : decode cX8_moneyOf 24 = .ok (.lreturn, 1) := by decide +kernel
theorem dX8_moneyOf_25 : decode cX8_moneyOf 25 = .ok (.iload_n 3, 1) := by decide +kernel
theorem dX8_moneyOf_26 : decode cX8_moneyOf 26 = .ok (.aload_n 0, 1) := by decide +kernel
theorem dX8_moneyOf_27 : decode cX8_moneyOf 27 = .ok (.getfield 48, 3) := by decide +kernel
theorem dX8_moneyOf_30 : decode cX8_moneyOf 30 = .ok (.iload_n 1, 1) := by decide +kernel
theorem dX8_moneyOf_31 : decode cX8_moneyOf 31 = .ok (.iaload, 1) := by decide +kernel
theorem dX8_moneyOf_32 : decode cX8_moneyOf 32 = .ok (.isub, 1) := by decide +kernel
theorem dX8_moneyOf_33 : decode cX8_moneyOf 33 = .ok (.i2l, 1) := by decide +kernel
theorem dX8_moneyOf_34 : decode cX8_moneyOf 34 = .ok (.iload_n 2, 1) := by decide +kernel
theorem dX8_moneyOf_35 : decode cX8_moneyOf 35 = .ok (.ineg, 1) := by decide +kernel
theorem dX8_moneyOf_36 : decode cX8_moneyOf 36 = .ok (.i2l, 1) := by decide +kernel
theorem dX8_moneyOf_37 : decode cX8_moneyOf 37 = .ok (.lmul, 1) := by decide +kernel
theorem dX8_moneyOf_38 : decode cX8_moneyOf 38 = .ok (.lreturn, 1) := by decide +kernel
theorem dX8_moneyIn_0 : decode cX8_moneyIn 0 = .ok (.lconst 0, 1) := by decide +kernel
theorem dX8_moneyIn_1 : decode cX8_moneyIn 1 = .ok (.lstore_n 3, 1) := by decide +kernel
theorem dX8_moneyIn_2 : decode cX8_moneyIn 2 = .ok (.iconst 0, 1) := by decide +kernel
theorem dX8_moneyIn_3 : decode cX8_moneyIn 3 = .ok (.istore 5, 2) := by decide +kernel
theorem dX8_moneyIn_5 : decode cX8_moneyIn 5 = .ok (.iload 5, 2) := by decide +kernel
theorem dX8_moneyIn_7 : decode cX8_moneyIn 7 = .ok (.aload_n 0, 1) := by decide +kernel
theorem dX8_moneyIn_8 : decode cX8_moneyIn 8 = .ok (.getfield 7, 3) := by decide +kernel
theorem dX8_moneyIn_11 : decode cX8_moneyIn 11 = .ok (.if_icmp .ge 36, 3) := by decide +kernel
theorem dX8_moneyIn_14 : decode cX8_moneyIn 14 = .ok (.lload_n 3, 1) := by decide +kernel
theorem dX8_moneyIn_15 : decode cX8_moneyIn 15 = .ok (.aload_n 0, 1) := by decide +kernel
theorem dX8_moneyIn_16 : decode cX8_moneyIn 16 = .ok (.iload_n 1, 1) := by decide +kernel
theorem dX8_moneyIn_17 : decode cX8_moneyIn 17 = .ok (.aload_n 0, 1) := by decide +kernel
theorem dX8_moneyIn_18 : decode cX8_moneyIn 18 = .ok (.getfield 57, 3) := by decide +kernel
theorem dX8_moneyIn_21 : decode cX8_moneyIn 21 = .ok (.bipush 36, 2) := by decide +kernel
theorem dX8_moneyIn_23 : decode cX8_moneyIn 23 = .ok (.iload_n 1, 1) := by decide +kernel
theorem dX8_moneyIn_24 : decode cX8_moneyIn 24 = .ok (.imul, 1) := by decide +kernel
theorem dX8_moneyIn_25 : decode cX8_moneyIn 25 = .ok (.iload 5, 2) := by decide +kernel
theorem dX8_moneyIn_27 : decode cX8_moneyIn 27 = .ok (.iadd, 1) := by decide +kernel
theorem dX8_moneyIn_28 : decode cX8_moneyIn 28 = .ok (.iaload, 1) := by decide +kernel
theorem dX8_moneyIn_29 : decode cX8_moneyIn 29 = .ok (.aload_n 0, 1) := by decide +kernel
theorem dX8_moneyIn_30 : decode cX8_moneyIn 30 = .ok (.iload_n 2, 1) := by decide +kernel
theorem dX8_moneyIn_31 : decode cX8_moneyIn 31 = .ok (.iload 5, 2) := by decide +kernel
theorem dX8_moneyIn_33 : decode cX8_moneyIn 33 = .ok (.invokevirtual 110, 3) := by decide +kernel
theorem dX8_moneyIn_36 : decode cX8_moneyIn 36 = .ok (.invokevirtual 180, 3) := by decide +kernel
theorem dX8_moneyIn_39 : decode cX8_moneyIn 39 = .ok (.ladd, 1) := by decide +kernel
theorem dX8_moneyIn_40 : decode cX8_moneyIn 40 = .ok (.lstore_n 3, 1) := by decide +kernel
theorem dX8_moneyIn_41 : decode cX8_moneyIn 41 = .ok (.iinc 5 1, 3) := by decide +kernel
theorem dX8_moneyIn_44 : decode cX8_moneyIn 44 = .ok (.goto (-39), 3) := by decide +kernel
theorem dX8_moneyIn_47 : decode cX8_moneyIn 47 = .ok (.lload_n 3, 1) := by decide +kernel
theorem dX8_moneyIn_48 : decode cX8_moneyIn 48 = .ok (.lreturn, 1) := by decide +kernel
theorem dX8_money_0 : decode cX8_money 0 = .ok (.iload_n 1, 1) := by decide +kernel
theorem dX8_money_1 : decode cX8_money 1 = .ok (.invokestatic 124, 3) := by decide +kernel
theorem dX8_money_4 : decode cX8_money 4 = .ok (.ifCond .eq 10, 3) := by decide +kernel
theorem dX8_money_7 : decode cX8_money 7 = .ok (.iload_n 2, 1) := by decide +kernel
theorem dX8_money_8 : decode cX8_money 8 = .ok (.invokestatic 96, 3) := by decide +kernel
theorem dX8_money_11 : decode cX8_money 11 = .ok (.ifCond .ne 7, 3) := by decide +kernel
theorem dX8_money_14 : decode cX8_money 14 = .ok (.ldc2_w 87, 3) := by decide +kernel
theorem dX8_money_17 : decode cX8_money 17 = .ok (.lreturn, 1) := by decide +kernel
theorem dX8_money_18 : decode cX8_money 18 = .ok (.aload_n 0, 1) := by decide +kernel
theorem dX8_money_19 : decode cX8_money 19 = .ok (.getfield 30, 3) := by decide +kernel
theorem dX8_money_22 : decode cX8_money 22 = .ok (.iload_n 1, 1) := by decide +kernel
theorem dX8_money_23 : decode cX8_money 23 = .ok (.iaload, 1) := by decide +kernel
theorem dX8_money_24 : decode cX8_money 24 = .ok (.ifCond .ge 9, 3) := by decide +kernel
theorem dX8_money_27 : decode cX8_money 27 = .ok (.ldc2_w 108, 3) := by decide +kernel
theorem dX8_money_30 : decode cX8_money 30 = .ok (.goto 9, 3) := by decide +kernel
theorem dX8_money_33 : decode cX8_money 33 = .ok (.aload_n 0, 1) := by decide +kernel
theorem dX8_money_34 : decode cX8_money 34 = .ok (.iload_n 1, 1) := by decide +kernel
theorem dX8_money_35 : decode cX8_money 35 = .ok (.iload_n 2, 1) := by decide +kernel
theorem dX8_money_36 : decode cX8_money 36 = .ok (.invokevirtual 184, 3) := by decide +kernel
theorem dX8_money_39 : decode cX8_money 39 = .ok (.lreturn, 1) := by decide +kernel
theorem dX8_areWorlds_0 : decode cX8_areWorlds 0 = .ok (.iload_n 0, 1) := by decide +kernel
theorem dX8_areWorlds_1 : decode cX8_areWorlds 1 = .ok (.i2l, 1) := by decide +kernel
theorem dX8_areWorlds_2 : decode cX8_areWorlds 2 = .ok (.lconst 1, 1) := by decide +kernel
theorem dX8_areWorlds_3 : decode cX8_areWorlds 3 = .ok (.ldc2_w 188, 3) := by decide +kernel
theorem dX8_areWorlds_6 : decode cX8_areWorlds 6 = .ok (.invokestatic 81, 3) := by decide +kernel
theorem dX8_areWorlds_9 : decode cX8_areWorlds 9 = .ok (.ireturn, 1) := by decide +kernel
theorem dX8_worst_0 : decode cX8_worst 0 = .ok (.iload_n 1, 1) := by decide +kernel
theorem dX8_worst_1 : decode cX8_worst 1 = .ok (.invokestatic 124, 3) := by decide +kernel
theorem dX8_worst_4 : decode cX8_worst 4 = .ok (.ifCond .eq 10, 3) := by decide +kernel
theorem dX8_worst_7 : decode cX8_worst 7 = .ok (.iload_n 2, 1) := by decide +kernel
theorem dX8_worst_8 : decode cX8_worst 8 = .ok (.invokestatic 190, 3) := by decide +kernel
theorem dX8_worst_11 : decode cX8_worst 11 = .ok (.ifCond .ne 7, 3) := by decide +kernel
theorem dX8_worst_14 : decode cX8_worst 14 = .ok (.ldc2_w 87, 3) := by decide +kernel
theorem dX8_worst_17 : decode cX8_worst 17 = .ok (.lreturn, 1) := by decide +kernel
theorem dX8_worst_18 : decode cX8_worst 18 = .ok (.aload_n 0, 1) := by decide +kernel
theorem dX8_worst_19 : decode cX8_worst 19 = .ok (.getfield 30, 3) := by decide +kernel
theorem dX8_worst_22 : decode cX8_worst 22 = .ok (.iload_n 1, 1) := by decide +kernel
theorem dX8_worst_23 : decode cX8_worst 23 = .ok (.iaload, 1) := by decide +kernel
theorem dX8_worst_24 : decode cX8_worst 24 = .ok (.ifCond .ge 7, 3) := by decide +kernel
theorem dX8_worst_27 : decode cX8_worst 27 = .ok (.ldc2_w 108, 3) := by decide +kernel
theorem dX8_worst_30 : decode cX8_worst 30 = .ok (.lreturn, 1) := by decide +kernel
theorem dX8_worst_31 : decode cX8_worst 31 = .ok (.lconst 0, 1) := by decide +kernel
theorem dX8_worst_32 : decode cX8_worst 32 = .ok (.lstore_n 3, 1) := by decide +kernel
theorem dX8_worst_33 : decode cX8_worst 33 = .ok (.iconst 0, 1) := by decide +kernel
theorem dX8_worst_34 : decode cX8_worst 34 = .ok (.istore 5, 2) := by decide +kernel
theorem dX8_worst_36 : decode cX8_worst 36 = .ok (.iconst 0, 1) := by decide +kernel
theorem dX8_worst_37 : decode cX8_worst 37 = .ok (.istore 6, 2) := by decide +kernel
theorem dX8_worst_39 : decode cX8_worst 39 = .ok (.iload 6, 2) := by decide +kernel
theorem dX8_worst_41 : decode cX8_worst 41 = .ok (.iconst 4, 1) := by decide +kernel
theorem dX8_worst_42 : decode cX8_worst 42 = .ok (.if_icmp .ge 50, 3) := by decide +kernel
theorem dX8_worst_45 : decode cX8_worst 45 = .ok (.iload_n 2, 1) := by decide +kernel
theorem dX8_worst_46 : decode cX8_worst 46 = .ok (.iload 6, 2) := by decide +kernel
theorem dX8_worst_48 : decode cX8_worst 48 = .ok (.ishr, 1) := by decide +kernel
theorem dX8_worst_49 : decode cX8_worst 49 = .ok (.iconst 1, 1) := by decide +kernel
theorem dX8_worst_50 : decode cX8_worst 50 = .ok (.iand, 1) := by decide +kernel
theorem dX8_worst_51 : decode cX8_worst 51 = .ok (.iconst 1, 1) := by decide +kernel
theorem dX8_worst_52 : decode cX8_worst 52 = .ok (.if_icmp .ne 34, 3) := by decide +kernel
theorem dX8_worst_55 : decode cX8_worst 55 = .ok (.aload_n 0, 1) := by decide +kernel
theorem dX8_worst_56 : decode cX8_worst 56 = .ok (.iload_n 1, 1) := by decide +kernel
theorem dX8_worst_57 : decode cX8_worst 57 = .ok (.iload 6, 2) := by decide +kernel
theorem dX8_worst_59 : decode cX8_worst 59 = .ok (.invokevirtual 184, 3) := by decide +kernel
theorem dX8_worst_62 : decode cX8_worst 62 = .ok (.lstore 7, 2) := by decide +kernel
theorem dX8_worst_64 : decode cX8_worst 64 = .ok (.iload 5, 2) := by decide +kernel
theorem dX8_worst_66 : decode cX8_worst 66 = .ok (.ifCond .eq 10, 3) := by decide +kernel
theorem dX8_worst_69 : decode cX8_worst 69 = .ok (.lload 7, 2) := by decide +kernel
theorem dX8_worst_71 : decode cX8_worst 71 = .ok (.lload_n 3, 1) := by decide +kernel
theorem dX8_worst_72 : decode cX8_worst 72 = .ok (.lcmp, 1) := by decide +kernel
theorem dX8_worst_73 : decode cX8_worst 73 = .ok (.ifCond .ge 8, 3) := by decide +kernel
theorem dX8_worst_76 : decode cX8_worst 76 = .ok (.lload 7, 2) := by decide +kernel
theorem dX8_worst_78 : decode cX8_worst 78 = .ok (.goto 4, 3) := by decide +kernel
theorem dX8_worst_81 : decode cX8_worst 81 = .ok (.lload_n 3, 1) := by decide +kernel
theorem dX8_worst_82 : decode cX8_worst 82 = .ok (.lstore_n 3, 1) := by decide +kernel
theorem dX8_worst_83 : decode cX8_worst 83 = .ok (.iconst 1, 1) := by decide +kernel
theorem dX8_worst_84 : decode cX8_worst 84 = .ok (.istore 5, 2) := by decide +kernel
theorem dX8_worst_86 : decode cX8_worst 86 = .ok (.iinc 6 1, 3) := by decide +kernel
theorem dX8_worst_89 : decode cX8_worst 89 = .ok (.goto (-50), 3) := by decide +kernel
theorem dX8_worst_92 : decode cX8_worst 92 = .ok (.lload_n 3, 1) := by decide +kernel
theorem dX8_worst_93 : decode cX8_worst 93 = .ok (.lreturn, 1) := by decide +kernel
theorem dX8_moneyTogether_0 : decode cX8_moneyTogether 0 = .ok (.lconst 0, 1) := by decide +kernel
theorem dX8_moneyTogether_1 : decode cX8_moneyTogether 1 = .ok (.lstore 5, 2) := by decide +kernel
theorem dX8_moneyTogether_3 : decode cX8_moneyTogether 3 = .ok (.iconst 0, 1) := by decide +kernel
theorem dX8_moneyTogether_4 : decode cX8_moneyTogether 4 = .ok (.istore 7, 2) := by decide +kernel
theorem dX8_moneyTogether_6 : decode cX8_moneyTogether 6 = .ok (.iload 7, 2) := by decide +kernel
theorem dX8_moneyTogether_8 : decode cX8_moneyTogether 8 = .ok (.iconst 4, 1) := by decide +kernel
theorem dX8_moneyTogether_9 : decode cX8_moneyTogether 9 = .ok (.if_icmp .ge 42, 3) := by decide +kernel
theorem dX8_moneyTogether_12 : decode cX8_moneyTogether 12 = .ok (.lload 5, 2) := by decide +kernel
theorem dX8_moneyTogether_14 : decode cX8_moneyTogether 14 = .ok (.iload_n 2, 1) := by decide +kernel
theorem dX8_moneyTogether_15 : decode cX8_moneyTogether 15 = .ok (.iload 7, 2) := by decide +kernel
theorem dX8_moneyTogether_17 : decode cX8_moneyTogether 17 = .ok (.ishr, 1) := by decide +kernel
theorem dX8_moneyTogether_18 : decode cX8_moneyTogether 18 = .ok (.iconst 1, 1) := by decide +kernel
theorem dX8_moneyTogether_19 : decode cX8_moneyTogether 19 = .ok (.iand, 1) := by decide +kernel
theorem dX8_moneyTogether_20 : decode cX8_moneyTogether 20 = .ok (.iconst 1, 1) := by decide +kernel
theorem dX8_moneyTogether_21 : decode cX8_moneyTogether 21 = .ok (.if_icmp .ne 20, 3) := by decide +kernel
theorem dX8_moneyTogether_24 : decode cX8_moneyTogether 24 = .ok (.aload_n 0, 1) := by decide +kernel
theorem dX8_moneyTogether_25 : decode cX8_moneyTogether 25 = .ok (.iload_n 1, 1) := by decide +kernel
theorem dX8_moneyTogether_26 : decode cX8_moneyTogether 26 = .ok (.iload 4, 2) := by decide +kernel
theorem dX8_moneyTogether_28 : decode cX8_moneyTogether 28 = .ok (.aload_n 0, 1) := by decide +kernel
theorem dX8_moneyTogether_29 : decode cX8_moneyTogether 29 = .ok (.iload 7, 2) := by decide +kernel
theorem dX8_moneyTogether_31 : decode cX8_moneyTogether 31 = .ok (.iload_n 3, 1) := by decide +kernel
theorem dX8_moneyTogether_32 : decode cX8_moneyTogether 32 = .ok (.invokevirtual 110, 3) := by decide +kernel
theorem dX8_moneyTogether_35 : decode cX8_moneyTogether 35 = .ok (.invokevirtual 180, 3) := by decide +kernel
theorem dX8_moneyTogether_38 : decode cX8_moneyTogether 38 = .ok (.goto 4, 3) := by decide +kernel
theorem dX8_moneyTogether_41 : decode cX8_moneyTogether 41 = .ok (.lconst 0, 1) := by decide +kernel
theorem dX8_moneyTogether_42 : decode cX8_moneyTogether 42 = .ok (.ladd, 1) := by decide +kernel
theorem dX8_moneyTogether_43 : decode cX8_moneyTogether 43 = .ok (.lstore 5, 2) := by decide +kernel
theorem dX8_moneyTogether_45 : decode cX8_moneyTogether 45 = .ok (.iinc 7 1, 3) := by decide +kernel
theorem dX8_moneyTogether_48 : decode cX8_moneyTogether 48 = .ok (.goto (-42), 3) := by decide +kernel
theorem dX8_moneyTogether_51 : decode cX8_moneyTogether 51 = .ok (.lload 5, 2) := by decide +kernel
theorem dX8_moneyTogether_53 : decode cX8_moneyTogether 53 = .ok (.lreturn, 1) := by decide +kernel
theorem dX8_with_0 : decode cX8_with 0 = .ok (.iload 4, 2) := by decide +kernel
theorem dX8_with_2 : decode cX8_with 2 = .ok (.iload 5, 2) := by decide +kernel
theorem dX8_with_4 : decode cX8_with 4 = .ok (.iadd, 1) := by decide +kernel
theorem dX8_with_5 : decode cX8_with 5 = .ok (.istore 6, 2) := by decide +kernel
theorem dX8_with_7 : decode cX8_with 7 = .ok (.iload 6, 2) := by decide +kernel
theorem dX8_with_9 : decode cX8_with 9 = .ok (.i2l, 1) := by decide +kernel
theorem dX8_with_10 : decode cX8_with 10 = .ok (.lconst 0, 1) := by decide +kernel
theorem dX8_with_11 : decode cX8_with 11 = .ok (.aload_n 0, 1) := by decide +kernel
theorem dX8_with_12 : decode cX8_with 12 = .ok (.getfield 33, 3) := by decide +kernel
theorem dX8_with_15 : decode cX8_with 15 = .ok (.iload_n 1, 1) := by decide +kernel
theorem dX8_with_16 : decode cX8_with 16 = .ok (.iaload, 1) := by decide +kernel
theorem dX8_with_17 : decode cX8_with 17 = .ok (.i2l, 1) := by decide +kernel
theorem dX8_with_18 : decode cX8_with 18 = .ok (.invokestatic 81, 3) := by decide +kernel
theorem dX8_with_21 : decode cX8_with 21 = .ok (.ifCond .eq 37, 3) := by decide +kernel
theorem dX8_with_24 : decode cX8_with 24 = .ok (.aload_n 0, 1) := by decide +kernel
theorem dX8_with_25 : decode cX8_with 25 = .ok (.iload_n 1, 1) := by decide +kernel
theorem dX8_with_26 : decode cX8_with 26 = .ok (.iload_n 3, 1) := by decide +kernel
theorem dX8_with_27 : decode cX8_with 27 = .ok (.iload 5, 2) := by decide +kernel
theorem dX8_with_29 : decode cX8_with 29 = .ok (.iload 6, 2) := by decide +kernel
theorem dX8_with_31 : decode cX8_with 31 = .ok (.invokevirtual 171, 3) := by decide +kernel
theorem dX8_with_34 : decode cX8_with 34 = .ok (.ifCond .ne 24, 3) := by decide +kernel
theorem dX8_with_37 : decode cX8_with 37 = .ok (.aload_n 0, 1) := by decide +kernel
theorem dX8_with_38 : decode cX8_with 38 = .ok (.getfield 73, 3) := by decide +kernel
theorem dX8_with_41 : decode cX8_with 41 = .ok (.bipush 61, 2) := by decide +kernel
theorem dX8_with_43 : decode cX8_with 43 = .ok (.iload_n 3, 1) := by decide +kernel
theorem dX8_with_44 : decode cX8_with 44 = .ok (.iconst 1, 1) := by decide +kernel
theorem dX8_with_45 : decode cX8_with 45 = .ok (.iadd, 1) := by decide +kernel
theorem dX8_with_46 : decode cX8_with 46 = .ok (.imul, 1) := by decide +kernel
theorem dX8_with_47 : decode cX8_with 47 = .ok (.iload 6, 2) := by decide +kernel
theorem dX8_with_49 : decode cX8_with 49 = .ok (.iadd, 1) := by decide +kernel
theorem dX8_with_50 : decode cX8_with 50 = .ok (.laload, 1) := by decide +kernel
theorem dX8_with_51 : decode cX8_with 51 = .ok (.ldc2_w 193, 3) := by decide +kernel
theorem dX8_with_54 : decode cX8_with 54 = .ok (.lcmp, 1) := by decide +kernel
theorem dX8_with_55 : decode cX8_with 55 = .ok (.ifCond .ne 7, 3) := by decide +kernel
theorem dX8_with_58 : decode cX8_with 58 = .ok (.ldc2_w 193, 3) := by decide +kernel
theorem dX8_with_61 : decode cX8_with 61 = .ok (.lreturn, 1) := by decide +kernel
theorem dX8_with_62 : decode cX8_with 62 = .ok (.aload_n 0, 1) := by decide +kernel
theorem dX8_with_63 : decode cX8_with 63 = .ok (.getfield 73, 3) := by decide +kernel
theorem dX8_with_66 : decode cX8_with 66 = .ok (.bipush 61, 2) := by decide +kernel
theorem dX8_with_68 : decode cX8_with 68 = .ok (.iload_n 3, 1) := by decide +kernel
theorem dX8_with_69 : decode cX8_with 69 = .ok (.iconst 1, 1) := by decide +kernel
theorem dX8_with_70 : decode cX8_with 70 = .ok (.iadd, 1) := by decide +kernel
theorem dX8_with_71 : decode cX8_with 71 = .ok (.imul, 1) := by decide +kernel
theorem dX8_with_72 : decode cX8_with 72 = .ok (.iload 6, 2) := by decide +kernel
theorem dX8_with_74 : decode cX8_with 74 = .ok (.iadd, 1) := by decide +kernel
theorem dX8_with_75 : decode cX8_with 75 = .ok (.laload, 1) := by decide +kernel
theorem dX8_with_76 : decode cX8_with 76 = .ok (.aload_n 0, 1) := by decide +kernel
theorem dX8_with_77 : decode cX8_with 77 = .ok (.iload_n 1, 1) := by decide +kernel
theorem dX8_with_78 : decode cX8_with 78 = .ok (.iload_n 2, 1) := by decide +kernel
theorem dX8_with_79 : decode cX8_with 79 = .ok (.iload_n 3, 1) := by decide +kernel
theorem dX8_with_80 : decode cX8_with 80 = .ok (.iload 5, 2) := by decide +kernel
theorem dX8_with_82 : decode cX8_with 82 = .ok (.invokevirtual 195, 3) := by decide +kernel
theorem dX8_with_85 : decode cX8_with 85 = .ok (.ladd, 1) := by decide +kernel
theorem dX8_with_86 : decode cX8_with 86 = .ok (.lreturn, 1) := by decide +kernel
theorem dX8_solve_0 : decode cX8_solve 0 = .ok (.iconst 0, 1) := by decide +kernel
theorem dX8_solve_1 : decode cX8_solve 1 = .ok (.istore_n 3, 1) := by decide +kernel
theorem dX8_solve_2 : decode cX8_solve 2 = .ok (.iload_n 3, 1) := by decide +kernel
theorem dX8_solve_3 : decode cX8_solve 3 = .ok (.bipush 61, 2) := by decide +kernel
theorem dX8_solve_5 : decode cX8_solve 5 = .ok (.if_icmp .ge 76, 3) := by decide +kernel
theorem dX8_solve_8 : decode cX8_solve 8 = .ok (.iload_n 3, 1) := by decide +kernel
theorem dX8_solve_9 : decode cX8_solve 9 = .ok (.aload_n 0, 1) := by decide +kernel
theorem dX8_solve_10 : decode cX8_solve 10 = .ok (.getfield 51, 3) := by decide +kernel
theorem dX8_solve_13 : decode cX8_solve 13 = .ok (.iload_n 1, 1) := by decide +kernel
theorem dX8_solve_14 : decode cX8_solve 14 = .ok (.iaload, 1) := by decide +kernel
theorem dX8_solve_15 : decode cX8_solve 15 = .ok (.if_icmp .lt 7, 3) := by decide +kernel
theorem dX8_solve_18 : decode cX8_solve 18 = .ok (.iconst 1, 1) := by decide +kernel
theorem dX8_solve_19 : decode cX8_solve 19 = .ok (.goto 4, 3) := by decide +kernel
theorem dX8_solve_22 : decode cX8_solve 22 = .ok (.iconst 0, 1) := by decide +kernel
theorem dX8_solve_23 : decode cX8_solve 23 = .ok (.istore 4, 2) := by decide +kernel
theorem dX8_solve_25 : decode cX8_solve 25 = .ok (.aload_n 0, 1) := by decide +kernel
theorem dX8_solve_26 : decode cX8_solve 26 = .ok (.getfield 73, 3) := by decide +kernel
theorem dX8_solve_29 : decode cX8_solve 29 = .ok (.bipush 61, 2) := by decide +kernel
theorem dX8_solve_31 : decode cX8_solve 31 = .ok (.aload_n 0, 1) := by decide +kernel
theorem dX8_solve_32 : decode cX8_solve 32 = .ok (.getfield 7, 3) := by decide +kernel
theorem dX8_solve_35 : decode cX8_solve 35 = .ok (.imul, 1) := by decide +kernel
theorem dX8_solve_36 : decode cX8_solve 36 = .ok (.iload_n 3, 1) := by decide +kernel
theorem dX8_solve_37 : decode cX8_solve 37 = .ok (.iadd, 1) := by decide +kernel
theorem dX8_solve_38 : decode cX8_solve 38 = .ok (.iload 4, 2) := by decide +kernel
theorem dX8_solve_40 : decode cX8_solve 40 = .ok (.ifCond .eq 7, 3) := by decide +kernel
theorem dX8_solve_43 : decode cX8_solve 43 = .ok (.lconst 0, 1) := by decide +kernel
theorem dX8_solve_44 : decode cX8_solve 44 = .ok (.goto 6, 3) := by decide +kernel
theorem dX8_solve_47 : decode cX8_solve 47 = .ok (.ldc2_w 193, 3) := by decide +kernel
theorem dX8_solve_50 : decode cX8_solve 50 = .ok (.lastore, 1) := by decide +kernel
theorem dX8_solve_51 : decode cX8_solve 51 = .ok (.aload_n 0, 1) := by decide +kernel
theorem dX8_solve_52 : decode cX8_solve 52 = .ok (.getfield 76, 3) := by decide +kernel
theorem dX8_solve_55 : decode cX8_solve 55 = .ok (.bipush 61, 2) := by decide +kernel
theorem dX8_solve_57 : decode cX8_solve 57 = .ok (.aload_n 0, 1) := by decide +kernel
theorem dX8_solve_58 : decode cX8_solve 58 = .ok (.getfield 7, 3) := by decide +kernel
theorem dX8_solve_61 : decode cX8_solve 61 = .ok (.imul, 1) := by decide +kernel
theorem dX8_solve_62 : decode cX8_solve 62 = .ok (.iload_n 3, 1) := by decide +kernel
theorem dX8_solve_63 : decode cX8_solve 63 = .ok (.iadd, 1) := by decide +kernel
theorem dX8_solve_64 : decode cX8_solve 64 = .ok (.iload 4, 2) := by decide +kernel
theorem dX8_solve_66 : decode cX8_solve 66 = .ok (.ifCond .eq 7, 3) := by decide +kernel
theorem dX8_solve_69 : decode cX8_solve 69 = .ok (.lconst 1, 1) := by decide +kernel
theorem dX8_solve_70 : decode cX8_solve 70 = .ok (.goto 4, 3) := by decide +kernel
theorem dX8_solve_73 : decode cX8_solve 73 = .ok (.lconst 0, 1) := by decide +kernel
theorem dX8_solve_74 : decode cX8_solve 74 = .ok (.lastore, 1) := by decide +kernel
theorem dX8_solve_75 : decode cX8_solve 75 = .ok (.iinc 3 1, 3) := by decide +kernel
theorem dX8_solve_78 : decode cX8_solve 78 = .ok (.goto (-76), 3) := by decide +kernel
theorem dX8_solve_81 : decode cX8_solve 81 = .ok (.aload_n 0, 1) := by decide +kernel
theorem dX8_solve_82 : decode cX8_solve 82 = .ok (.getfield 7, 3) := by decide +kernel
theorem dX8_solve_85 : decode cX8_solve 85 = .ok (.iconst 1, 1) := by decide +kernel
theorem dX8_solve_86 : decode cX8_solve 86 = .ok (.isub, 1) := by decide +kernel
theorem dX8_solve_87 : decode cX8_solve 87 = .ok (.istore_n 3, 1) := by decide +kernel
theorem dX8_solve_88 : decode cX8_solve 88 = .ok (.iload_n 3, 1) := by decide +kernel
theorem dX8_solve_89 : decode cX8_solve 89 = .ok (.ifCond .lt 180, 3) := by decide +kernel
theorem dX8_solve_92 : decode cX8_solve 92 = .ok (.iconst 0, 1) := by decide +kernel
theorem dX8_solve_93 : decode cX8_solve 93 = .ok (.istore 4, 2) := by decide +kernel
theorem dX8_solve_95 : decode cX8_solve 95 = .ok (.iload 4, 2) := by decide +kernel
theorem dX8_solve_97 : decode cX8_solve 97 = .ok (.aload_n 0, 1) := by decide +kernel
theorem dX8_solve_98 : decode cX8_solve 98 = .ok (.getfield 33, 3) := by decide +kernel
theorem dX8_solve_101 : decode cX8_solve 101 = .ok (.iload_n 1, 1) := by decide +kernel
theorem dX8_solve_102 : decode cX8_solve 102 = .ok (.iaload, 1) := by decide +kernel
theorem dX8_solve_103 : decode cX8_solve 103 = .ok (.if_icmp .gt 160, 3) := by decide +kernel
theorem dX8_solve_106 : decode cX8_solve 106 = .ok (.ldc2_w 193, 3) := by decide +kernel
theorem dX8_solve_109 : decode cX8_solve 109 = .ok (.lstore 5, 2) := by decide +kernel
theorem dX8_solve_111 : decode cX8_solve 111 = .ok (.lconst 0, 1) := by decide +kernel
theorem dX8_solve_112 : decode cX8_solve 112 = .ok (.lstore 7, 2) := by decide +kernel
theorem dX8_solve_114 : decode cX8_solve 114 = .ok (.aload_n 0, 1) := by decide +kernel
theorem dX8_solve_115 : decode cX8_solve 115 = .ok (.iload_n 1, 1) := by decide +kernel
theorem dX8_solve_116 : decode cX8_solve 116 = .ok (.invokevirtual 152, 3) := by decide +kernel
theorem dX8_solve_119 : decode cX8_solve 119 = .ok (.ineg, 1) := by decide +kernel
theorem dX8_solve_120 : decode cX8_solve 120 = .ok (.istore 9, 2) := by decide +kernel
theorem dX8_solve_122 : decode cX8_solve 122 = .ok (.iload 9, 2) := by decide +kernel
theorem dX8_solve_124 : decode cX8_solve 124 = .ok (.aload_n 0, 1) := by decide +kernel
theorem dX8_solve_125 : decode cX8_solve 125 = .ok (.iload_n 1, 1) := by decide +kernel
theorem dX8_solve_126 : decode cX8_solve 126 = .ok (.invokevirtual 149, 3) := by decide +kernel
theorem dX8_solve_129 : decode cX8_solve 129 = .ok (.if_icmp .gt 100, 3) := by decide +kernel
theorem dX8_solve_132 : decode cX8_solve 132 = .ok (.aload_n 0, 1) := by decide +kernel
theorem dX8_solve_133 : decode cX8_solve 133 = .ok (.iload_n 1, 1) := by decide +kernel
theorem dX8_solve_134 : decode cX8_solve 134 = .ok (.iload_n 2, 1) := by decide +kernel
theorem dX8_solve_135 : decode cX8_solve 135 = .ok (.iload_n 3, 1) := by decide +kernel
theorem dX8_solve_136 : decode cX8_solve 136 = .ok (.iload 4, 2) := by decide +kernel
theorem dX8_solve_138 : decode cX8_solve 138 = .ok (.iload 9, 2) := by decide +kernel
theorem dX8_solve_140 : decode cX8_solve 140 = .ok (.invokevirtual 199, 3) := by decide +kernel
theorem dX8_solve_143 : decode cX8_solve 143 = .ok (.lstore 10, 2) := by decide +kernel
theorem dX8_solve_145 : decode cX8_solve 145 = .ok (.lload 10, 2) := by decide +kernel
theorem dX8_solve_147 : decode cX8_solve 147 = .ok (.ldc2_w 193, 3) := by decide +kernel
theorem dX8_solve_150 : decode cX8_solve 150 = .ok (.lcmp, 1) := by decide +kernel
theorem dX8_solve_151 : decode cX8_solve 151 = .ok (.ifCond .eq 72, 3) := by decide +kernel
theorem dX8_solve_154 : decode cX8_solve 154 = .ok (.lload 10, 2) := by decide +kernel
theorem dX8_solve_156 : decode cX8_solve 156 = .ok (.lload 5, 2) := by decide +kernel
theorem dX8_solve_158 : decode cX8_solve 158 = .ok (.lcmp, 1) := by decide +kernel
theorem dX8_solve_159 : decode cX8_solve 159 = .ok (.ifCond .lt 64, 3) := by decide +kernel
theorem dX8_solve_162 : decode cX8_solve 162 = .ok (.lload 10, 2) := by decide +kernel
theorem dX8_solve_164 : decode cX8_solve 164 = .ok (.lload 5, 2) := by decide +kernel
theorem dX8_solve_166 : decode cX8_solve 166 = .ok (.lcmp, 1) := by decide +kernel
theorem dX8_solve_167 : decode cX8_solve 167 = .ok (.ifCond .le 7, 3) := by decide +kernel
theorem dX8_solve_170 : decode cX8_solve 170 = .ok (.lconst 0, 1) := by decide +kernel
theorem dX8_solve_171 : decode cX8_solve 171 = .ok (.goto 5, 3) := by decide +kernel
theorem dX8_solve_174 : decode cX8_solve 174 = .ok (.lload 7, 2) := by decide +kernel
theorem dX8_solve_176 : decode cX8_solve 176 = .ok (.lstore 7, 2) := by decide +kernel
theorem dX8_solve_178 : decode cX8_solve 178 = .ok (.lload 10, 2) := by decide +kernel
theorem dX8_solve_180 : decode cX8_solve 180 = .ok (.lstore 5, 2) := by decide +kernel
theorem dX8_solve_182 : decode cX8_solve 182 = .ok (.lload 7, 2) := by decide +kernel
theorem dX8_solve_184 : decode cX8_solve 184 = .ok (.aload_n 0, 1) := by decide +kernel
theorem dX8_solve_185 : decode cX8_solve 185 = .ok (.getfield 76, 3) := by decide +kernel
theorem dX8_solve_188 : decode cX8_solve 188 = .ok (.bipush 61, 2) := by decide +kernel
theorem dX8_solve_190 : decode cX8_solve 190 = .ok (.iload_n 3, 1) := by decide +kernel
theorem dX8_solve_191 : decode cX8_solve 191 = .ok (.iconst 1, 1) := by decide +kernel
theorem dX8_solve_192 : decode cX8_solve 192 = .ok (.iadd, 1) := by decide +kernel
theorem dX8_solve_193 : decode cX8_solve 193 = .ok (.imul, 1) := by decide +kernel
theorem dX8_solve_194 : decode cX8_solve 194 = .ok (.iload 4, 2) := by decide +kernel
theorem dX8_solve_196 : decode cX8_solve 196 = .ok (.iadd, 1) := by decide +kernel
theorem dX8_solve_197 : decode cX8_solve 197 = .ok (.iload 9, 2) := by decide +kernel
theorem dX8_solve_199 : decode cX8_solve 199 = .ok (.iadd, 1) := by decide +kernel
theorem dX8_solve_200 : decode cX8_solve 200 = .ok (.laload, 1) := by decide +kernel
theorem dX8_solve_201 : decode cX8_solve 201 = .ok (.ladd, 1) := by decide +kernel
theorem dX8_solve_202 : decode cX8_solve 202 = .ok (.lstore 7, 2) := by decide +kernel
theorem dX8_solve_204 : decode cX8_solve 204 = .ok (.lload 7, 2) := by decide +kernel
theorem dX8_solve_206 : decode cX8_solve 206 = .ok (.ldc2_w 203, 3) := by decide +kernel
theorem dX8_solve_209 : decode cX8_solve 209 = .ok (.lcmp, 1) := by decide +kernel
theorem dX8_solve_210 : decode cX8_solve 210 = .ok (.ifCond .le 9, 3) := by decide +kernel
theorem dX8_solve_213 : decode cX8_solve 213 = .ok (.ldc2_w 205, 3) := by decide +kernel
theorem dX8_solve_216 : decode cX8_solve 216 = .ok (.goto 5, 3) := by decide +kernel
theorem dX8_solve_219 : decode cX8_solve 219 = .ok (.lload 7, 2) := by decide +kernel
theorem dX8_solve_221 : decode cX8_solve 221 = .ok (.lstore 7, 2) := by decide +kernel
theorem dX8_solve_223 : decode cX8_solve 223 = .ok (.iinc 9 1, 3) := by decide +kernel
theorem dX8_solve_226 : decode cX8_solve 226 = .ok (.goto (-104), 3) := by decide +kernel
theorem dX8_solve_229 : decode cX8_solve 229 = .ok (.aload_n 0, 1) := by decide +kernel
theorem dX8_solve_230 : decode cX8_solve 230 = .ok (.getfield 73, 3) := by decide +kernel
theorem dX8_solve_233 : decode cX8_solve 233 = .ok (.bipush 61, 2) := by decide +kernel
theorem dX8_solve_235 : decode cX8_solve 235 = .ok (.iload_n 3, 1) := by decide +kernel
theorem dX8_solve_236 : decode cX8_solve 236 = .ok (.imul, 1) := by decide +kernel
theorem dX8_solve_237 : decode cX8_solve 237 = .ok (.iload 4, 2) := by decide +kernel
theorem dX8_solve_239 : decode cX8_solve 239 = .ok (.iadd, 1) := by decide +kernel
theorem dX8_solve_240 : decode cX8_solve 240 = .ok (.lload 5, 2) := by decide +kernel
theorem dX8_solve_242 : decode cX8_solve 242 = .ok (.lastore, 1) := by decide +kernel
theorem dX8_solve_243 : decode cX8_solve 243 = .ok (.aload_n 0, 1) := by decide +kernel
theorem dX8_solve_244 : decode cX8_solve 244 = .ok (.getfield 76, 3) := by decide +kernel
theorem dX8_solve_247 : decode cX8_solve 247 = .ok (.bipush 61, 2) := by decide +kernel
theorem dX8_solve_249 : decode cX8_solve 249 = .ok (.iload_n 3, 1) := by decide +kernel
theorem dX8_solve_250 : decode cX8_solve 250 = .ok (.imul, 1) := by decide +kernel
theorem dX8_solve_251 : decode cX8_solve 251 = .ok (.iload 4, 2) := by decide +kernel
theorem dX8_solve_253 : decode cX8_solve 253 = .ok (.iadd, 1) := by decide +kernel
theorem dX8_solve_254 : decode cX8_solve 254 = .ok (.lload 7, 2) := by decide +kernel
theorem dX8_solve_256 : decode cX8_solve 256 = .ok (.lastore, 1) := by decide +kernel
theorem dX8_solve_257 : decode cX8_solve 257 = .ok (.iinc 4 1, 3) := by decide +kernel
theorem dX8_solve_260 : decode cX8_solve 260 = .ok (.goto (-165), 3) := by decide +kernel
theorem dX8_solve_263 : decode cX8_solve 263 = .ok (.iinc 3 (-1), 3) := by decide +kernel
theorem dX8_solve_266 : decode cX8_solve 266 = .ok (.goto (-178), 3) := by decide +kernel
theorem dX8_solve_269 : decode cX8_solve 269 = .ok (.return_, 1) := by decide +kernel
theorem dX8_best_0 : decode cX8_best 0 = .ok (.iload_n 1, 1) := by decide +kernel
theorem dX8_best_1 : decode cX8_best 1 = .ok (.invokestatic 124, 3) := by decide +kernel
theorem dX8_best_4 : decode cX8_best 4 = .ok (.ifCond .eq 10, 3) := by decide +kernel
theorem dX8_best_7 : decode cX8_best 7 = .ok (.iload_n 2, 1) := by decide +kernel
theorem dX8_best_8 : decode cX8_best 8 = .ok (.invokestatic 190, 3) := by decide +kernel
theorem dX8_best_11 : decode cX8_best 11 = .ok (.ifCond .ne 7, 3) := by decide +kernel
theorem dX8_best_14 : decode cX8_best 14 = .ok (.ldc2_w 87, 3) := by decide +kernel
theorem dX8_best_17 : decode cX8_best 17 = .ok (.lreturn, 1) := by decide +kernel
theorem dX8_best_18 : decode cX8_best 18 = .ok (.aload_n 0, 1) := by decide +kernel
theorem dX8_best_19 : decode cX8_best 19 = .ok (.getfield 30, 3) := by decide +kernel
theorem dX8_best_22 : decode cX8_best 22 = .ok (.iload_n 1, 1) := by decide +kernel
theorem dX8_best_23 : decode cX8_best 23 = .ok (.iaload, 1) := by decide +kernel
theorem dX8_best_24 : decode cX8_best 24 = .ok (.ifCond .ge 7, 3) := by decide +kernel
theorem dX8_best_27 : decode cX8_best 27 = .ok (.ldc2_w 108, 3) := by decide +kernel
theorem dX8_best_30 : decode cX8_best 30 = .ok (.lreturn, 1) := by decide +kernel
theorem dX8_best_31 : decode cX8_best 31 = .ok (.aload_n 0, 1) := by decide +kernel
theorem dX8_best_32 : decode cX8_best 32 = .ok (.iload_n 1, 1) := by decide +kernel
theorem dX8_best_33 : decode cX8_best 33 = .ok (.iload_n 2, 1) := by decide +kernel
theorem dX8_best_34 : decode cX8_best 34 = .ok (.invokevirtual 207, 3) := by decide +kernel
theorem dX8_best_37 : decode cX8_best 37 = .ok (.aload_n 0, 1) := by decide +kernel
theorem dX8_best_38 : decode cX8_best 38 = .ok (.getfield 36, 3) := by decide +kernel
theorem dX8_best_41 : decode cX8_best 41 = .ok (.iload_n 1, 1) := by decide +kernel
theorem dX8_best_42 : decode cX8_best 42 = .ok (.iaload, 1) := by decide +kernel
theorem dX8_best_43 : decode cX8_best 43 = .ok (.istore_n 3, 1) := by decide +kernel
theorem dX8_best_44 : decode cX8_best 44 = .ok (.aload_n 0, 1) := by decide +kernel
theorem dX8_best_45 : decode cX8_best 45 = .ok (.getfield 73, 3) := by decide +kernel
theorem dX8_best_48 : decode cX8_best 48 = .ok (.iload_n 3, 1) := by decide +kernel
theorem dX8_best_49 : decode cX8_best 49 = .ok (.laload, 1) := by decide +kernel
theorem dX8_best_50 : decode cX8_best 50 = .ok (.ldc2_w 193, 3) := by decide +kernel
theorem dX8_best_53 : decode cX8_best 53 = .ok (.lcmp, 1) := by decide +kernel
theorem dX8_best_54 : decode cX8_best 54 = .ok (.ifCond .ne 7, 3) := by decide +kernel
theorem dX8_best_57 : decode cX8_best 57 = .ok (.ldc2_w 175, 3) := by decide +kernel
theorem dX8_best_60 : decode cX8_best 60 = .ok (.lreturn, 1) := by decide +kernel
theorem dX8_best_61 : decode cX8_best 61 = .ok (.iconst 0, 1) := by decide +kernel
theorem dX8_best_62 : decode cX8_best 62 = .ok (.istore 4, 2) := by decide +kernel
theorem dX8_best_64 : decode cX8_best 64 = .ok (.iload 4, 2) := by decide +kernel
theorem dX8_best_66 : decode cX8_best 66 = .ok (.aload_n 0, 1) := by decide +kernel
theorem dX8_best_67 : decode cX8_best 67 = .ok (.getfield 7, 3) := by decide +kernel
theorem dX8_best_70 : decode cX8_best 70 = .ok (.if_icmp .ge 69, 3) := by decide +kernel
theorem dX8_best_73 : decode cX8_best 73 = .ok (.aload_n 0, 1) := by decide +kernel
theorem dX8_best_74 : decode cX8_best 74 = .ok (.iload_n 1, 1) := by decide +kernel
theorem dX8_best_75 : decode cX8_best 75 = .ok (.invokevirtual 152, 3) := by decide +kernel
theorem dX8_best_78 : decode cX8_best 78 = .ok (.ineg, 1) := by decide +kernel
theorem dX8_best_79 : decode cX8_best 79 = .ok (.istore 5, 2) := by decide +kernel
theorem dX8_best_81 : decode cX8_best 81 = .ok (.aload_n 0, 1) := by decide +kernel
theorem dX8_best_82 : decode cX8_best 82 = .ok (.iload_n 1, 1) := by decide +kernel
theorem dX8_best_83 : decode cX8_best 83 = .ok (.iload_n 2, 1) := by decide +kernel
theorem dX8_best_84 : decode cX8_best 84 = .ok (.iload 4, 2) := by decide +kernel
theorem dX8_best_86 : decode cX8_best 86 = .ok (.iload_n 3, 1) := by decide +kernel
theorem dX8_best_87 : decode cX8_best 87 = .ok (.iload 5, 2) := by decide +kernel
theorem dX8_best_89 : decode cX8_best 89 = .ok (.invokevirtual 199, 3) := by decide +kernel
theorem dX8_best_92 : decode cX8_best 92 = .ok (.aload_n 0, 1) := by decide +kernel
theorem dX8_best_93 : decode cX8_best 93 = .ok (.getfield 73, 3) := by decide +kernel
theorem dX8_best_96 : decode cX8_best 96 = .ok (.bipush 61, 2) := by decide +kernel
theorem dX8_best_98 : decode cX8_best 98 = .ok (.iload 4, 2) := by decide +kernel
theorem dX8_best_100 : decode cX8_best 100 = .ok (.imul, 1) := by decide +kernel
theorem dX8_best_101 : decode cX8_best 101 = .ok (.iload_n 3, 1) := by decide +kernel
theorem dX8_best_102 : decode cX8_best 102 = .ok (.iadd, 1) := by decide +kernel
theorem dX8_best_103 : decode cX8_best 103 = .ok (.laload, 1) := by decide +kernel
theorem dX8_best_104 : decode cX8_best 104 = .ok (.lcmp, 1) := by decide +kernel
theorem dX8_best_105 : decode cX8_best 105 = .ok (.ifCond .eq 9, 3) := by decide +kernel
theorem dX8_best_108 : decode cX8_best 108 = .ok (.iinc 5 1, 3) := by decide +kernel
theorem dX8_best_111 : decode cX8_best 111 = .ok (.goto (-30), 3) := by decide +kernel
theorem dX8_best_114 : decode cX8_best 114 = .ok (.aload_n 0, 1) := by decide +kernel
theorem dX8_best_115 : decode cX8_best 115 = .ok (.getfield 57, 3) := by decide +kernel
theorem dX8_best_118 : decode cX8_best 118 = .ok (.bipush 36, 2) := by decide +kernel
theorem dX8_best_120 : decode cX8_best 120 = .ok (.iload_n 1, 1) := by decide +kernel
theorem dX8_best_121 : decode cX8_best 121 = .ok (.imul, 1) := by decide +kernel
theorem dX8_best_122 : decode cX8_best 122 = .ok (.iload 4, 2) := by decide +kernel
theorem dX8_best_124 : decode cX8_best 124 = .ok (.iadd, 1) := by decide +kernel
theorem dX8_best_125 : decode cX8_best 125 = .ok (.iload 5, 2) := by decide +kernel
theorem dX8_best_127 : decode cX8_best 127 = .ok (.iastore, 1) := by decide +kernel
theorem dX8_best_128 : decode cX8_best 128 = .ok (.iload_n 3, 1) := by decide +kernel
theorem dX8_best_129 : decode cX8_best 129 = .ok (.iload 5, 2) := by decide +kernel
theorem dX8_best_131 : decode cX8_best 131 = .ok (.iadd, 1) := by decide +kernel
theorem dX8_best_132 : decode cX8_best 132 = .ok (.istore_n 3, 1) := by decide +kernel
theorem dX8_best_133 : decode cX8_best 133 = .ok (.iinc 4 1, 3) := by decide +kernel
theorem dX8_best_136 : decode cX8_best 136 = .ok (.goto (-72), 3) := by decide +kernel
theorem dX8_best_139 : decode cX8_best 139 = .ok (.aload_n 0, 1) := by decide +kernel
theorem dX8_best_140 : decode cX8_best 140 = .ok (.getfield 73, 3) := by decide +kernel
theorem dX8_best_143 : decode cX8_best 143 = .ok (.aload_n 0, 1) := by decide +kernel
theorem dX8_best_144 : decode cX8_best 144 = .ok (.getfield 36, 3) := by decide +kernel
theorem dX8_best_147 : decode cX8_best 147 = .ok (.iload_n 1, 1) := by decide +kernel
theorem dX8_best_148 : decode cX8_best 148 = .ok (.iaload, 1) := by decide +kernel
theorem dX8_best_149 : decode cX8_best 149 = .ok (.laload, 1) := by decide +kernel
theorem dX8_best_150 : decode cX8_best 150 = .ok (.lreturn, 1) := by decide +kernel
theorem dX8_many_0 : decode cX8_many 0 = .ok (.iload_n 1, 1) := by decide +kernel
theorem dX8_many_1 : decode cX8_many 1 = .ok (.invokestatic 124, 3) := by decide +kernel
theorem dX8_many_4 : decode cX8_many 4 = .ok (.ifCond .eq 10, 3) := by decide +kernel
theorem dX8_many_7 : decode cX8_many 7 = .ok (.iload_n 2, 1) := by decide +kernel
theorem dX8_many_8 : decode cX8_many 8 = .ok (.invokestatic 190, 3) := by decide +kernel
theorem dX8_many_11 : decode cX8_many 11 = .ok (.ifCond .ne 7, 3) := by decide +kernel
theorem dX8_many_14 : decode cX8_many 14 = .ok (.ldc2_w 87, 3) := by decide +kernel
theorem dX8_many_17 : decode cX8_many 17 = .ok (.lreturn, 1) := by decide +kernel
theorem dX8_many_18 : decode cX8_many 18 = .ok (.aload_n 0, 1) := by decide +kernel
theorem dX8_many_19 : decode cX8_many 19 = .ok (.getfield 30, 3) := by decide +kernel
theorem dX8_many_22 : decode cX8_many 22 = .ok (.iload_n 1, 1) := by decide +kernel
theorem dX8_many_23 : decode cX8_many 23 = .ok (.iaload, 1) := by decide +kernel
theorem dX8_many_24 : decode cX8_many 24 = .ok (.ifCond .ge 7, 3) := by decide +kernel
theorem dX8_many_27 : decode cX8_many 27 = .ok (.ldc2_w 108, 3) := by decide +kernel
theorem dX8_many_30 : decode cX8_many 30 = .ok (.lreturn, 1) := by decide +kernel
theorem dX8_many_31 : decode cX8_many 31 = .ok (.aload_n 0, 1) := by decide +kernel
theorem dX8_many_32 : decode cX8_many 32 = .ok (.iload_n 1, 1) := by decide +kernel
theorem dX8_many_33 : decode cX8_many 33 = .ok (.iload_n 2, 1) := by decide +kernel
theorem dX8_many_34 : decode cX8_many 34 = .ok (.invokevirtual 207, 3) := by decide +kernel
theorem dX8_many_37 : decode cX8_many 37 = .ok (.aload_n 0, 1) := by decide +kernel
theorem dX8_many_38 : decode cX8_many 38 = .ok (.getfield 76, 3) := by decide +kernel
theorem dX8_many_41 : decode cX8_many 41 = .ok (.aload_n 0, 1) := by decide +kernel
theorem dX8_many_42 : decode cX8_many 42 = .ok (.getfield 36, 3) := by decide +kernel
theorem dX8_many_45 : decode cX8_many 45 = .ok (.iload_n 1, 1) := by decide +kernel
theorem dX8_many_46 : decode cX8_many 46 = .ok (.iaload, 1) := by decide +kernel
theorem dX8_many_47 : decode cX8_many 47 = .ok (.laload, 1) := by decide +kernel
theorem dX8_many_48 : decode cX8_many 48 = .ok (.lstore_n 3, 1) := by decide +kernel
theorem dX8_many_49 : decode cX8_many 49 = .ok (.lload_n 3, 1) := by decide +kernel
theorem dX8_many_50 : decode cX8_many 50 = .ok (.ldc2_w 203, 3) := by decide +kernel
theorem dX8_many_53 : decode cX8_many 53 = .ok (.lcmp, 1) := by decide +kernel
theorem dX8_many_54 : decode cX8_many 54 = .ok (.ifCond .le 9, 3) := by decide +kernel
theorem dX8_many_57 : decode cX8_many 57 = .ok (.ldc2_w 203, 3) := by decide +kernel
theorem dX8_many_60 : decode cX8_many 60 = .ok (.goto 4, 3) := by decide +kernel
theorem dX8_many_63 : decode cX8_many 63 = .ok (.lload_n 3, 1) := by decide +kernel
theorem dX8_many_64 : decode cX8_many 64 = .ok (.lreturn, 1) := by decide +kernel
theorem dX8_value_0 : decode cX8_value 0 = .ok (.iload_n 1, 1) := by decide +kernel
theorem dX8_value_1 : decode cX8_value 1 = .ok (.invokestatic 124, 3) := by decide +kernel
theorem dX8_value_4 : decode cX8_value 4 = .ok (.ifCond .eq 10, 3) := by decide +kernel
theorem dX8_value_7 : decode cX8_value 7 = .ok (.iload_n 2, 1) := by decide +kernel
theorem dX8_value_8 : decode cX8_value 8 = .ok (.invokestatic 190, 3) := by decide +kernel
theorem dX8_value_11 : decode cX8_value 11 = .ok (.ifCond .ne 7, 3) := by decide +kernel
theorem dX8_value_14 : decode cX8_value 14 = .ok (.ldc2_w 87, 3) := by decide +kernel
theorem dX8_value_17 : decode cX8_value 17 = .ok (.lreturn, 1) := by decide +kernel
theorem dX8_value_18 : decode cX8_value 18 = .ok (.aload_n 0, 1) := by decide +kernel
theorem dX8_value_19 : decode cX8_value 19 = .ok (.getfield 30, 3) := by decide +kernel
theorem dX8_value_22 : decode cX8_value 22 = .ok (.iload_n 1, 1) := by decide +kernel
theorem dX8_value_23 : decode cX8_value 23 = .ok (.iaload, 1) := by decide +kernel
theorem dX8_value_24 : decode cX8_value 24 = .ok (.ifCond .ge 7, 3) := by decide +kernel
theorem dX8_value_27 : decode cX8_value 27 = .ok (.ldc2_w 108, 3) := by decide +kernel
theorem dX8_value_30 : decode cX8_value 30 = .ok (.lreturn, 1) := by decide +kernel
theorem dX8_value_31 : decode cX8_value 31 = .ok (.iload_n 3, 1) := by decide +kernel
theorem dX8_value_32 : decode cX8_value 32 = .ok (.i2l, 1) := by decide +kernel
theorem dX8_value_33 : decode cX8_value 33 = .ok (.lconst 0, 1) := by decide +kernel
theorem dX8_value_34 : decode cX8_value 34 = .ok (.aload_n 0, 1) := by decide +kernel
theorem dX8_value_35 : decode cX8_value 35 = .ok (.getfield 7, 3) := by decide +kernel
theorem dX8_value_38 : decode cX8_value 38 = .ok (.i2l, 1) := by decide +kernel
theorem dX8_value_39 : decode cX8_value 39 = .ok (.invokestatic 81, 3) := by decide +kernel
theorem dX8_value_42 : decode cX8_value 42 = .ok (.ifCond .eq 20, 3) := by decide +kernel
theorem dX8_value_45 : decode cX8_value 45 = .ok (.iload 4, 2) := by decide +kernel
theorem dX8_value_47 : decode cX8_value 47 = .ok (.i2l, 1) := by decide +kernel
theorem dX8_value_48 : decode cX8_value 48 = .ok (.lconst 0, 1) := by decide +kernel
theorem dX8_value_49 : decode cX8_value 49 = .ok (.aload_n 0, 1) := by decide +kernel
theorem dX8_value_50 : decode cX8_value 50 = .ok (.getfield 33, 3) := by decide +kernel
theorem dX8_value_53 : decode cX8_value 53 = .ok (.iload_n 1, 1) := by decide +kernel
theorem dX8_value_54 : decode cX8_value 54 = .ok (.iaload, 1) := by decide +kernel
theorem dX8_value_55 : decode cX8_value 55 = .ok (.i2l, 1) := by decide +kernel
theorem dX8_value_56 : decode cX8_value 56 = .ok (.invokestatic 81, 3) := by decide +kernel
theorem dX8_value_59 : decode cX8_value 59 = .ok (.ifCond .ne 7, 3) := by decide +kernel
theorem dX8_value_62 : decode cX8_value 62 = .ok (.ldc2_w 87, 3) := by decide +kernel
theorem dX8_value_65 : decode cX8_value 65 = .ok (.lreturn, 1) := by decide +kernel
theorem dX8_value_66 : decode cX8_value 66 = .ok (.aload_n 0, 1) := by decide +kernel
theorem dX8_value_67 : decode cX8_value 67 = .ok (.iload_n 1, 1) := by decide +kernel
theorem dX8_value_68 : decode cX8_value 68 = .ok (.iload_n 2, 1) := by decide +kernel
theorem dX8_value_69 : decode cX8_value 69 = .ok (.invokevirtual 207, 3) := by decide +kernel
theorem dX8_value_72 : decode cX8_value 72 = .ok (.aload_n 0, 1) := by decide +kernel
theorem dX8_value_73 : decode cX8_value 73 = .ok (.getfield 73, 3) := by decide +kernel
theorem dX8_value_76 : decode cX8_value 76 = .ok (.bipush 61, 2) := by decide +kernel
theorem dX8_value_78 : decode cX8_value 78 = .ok (.iload_n 3, 1) := by decide +kernel
theorem dX8_value_79 : decode cX8_value 79 = .ok (.imul, 1) := by decide +kernel
theorem dX8_value_80 : decode cX8_value 80 = .ok (.iload 4, 2) := by decide +kernel
theorem dX8_value_82 : decode cX8_value 82 = .ok (.iadd, 1) := by decide +kernel
theorem dX8_value_83 : decode cX8_value 83 = .ok (.laload, 1) := by decide +kernel
theorem dX8_value_84 : decode cX8_value 84 = .ok (.lstore 5, 2) := by decide +kernel
theorem dX8_value_86 : decode cX8_value 86 = .ok (.lload 5, 2) := by decide +kernel
theorem dX8_value_88 : decode cX8_value 88 = .ok (.ldc2_w 193, 3) := by decide +kernel
theorem dX8_value_91 : decode cX8_value 91 = .ok (.lcmp, 1) := by decide +kernel
theorem dX8_value_92 : decode cX8_value 92 = .ok (.ifCond .ne 9, 3) := by decide +kernel
theorem dX8_value_95 : decode cX8_value 95 = .ok (.ldc2_w 175, 3) := by decide +kernel
theorem dX8_value_98 : decode cX8_value 98 = .ok (.goto 5, 3) := by decide +kernel
theorem dX8_value_101 : decode cX8_value 101 = .ok (.lload 5, 2) := by decide +kernel
theorem dX8_value_103 : decode cX8_value 103 = .ok (.lreturn, 1) := by decide +kernel
theorem dX8_bid_0 : decode cX8_bid 0 = .ok (.aload_n 0, 1) := by decide +kernel
theorem dX8_bid_1 : decode cX8_bid 1 = .ok (.iload_n 1, 1) := by decide +kernel
theorem dX8_bid_2 : decode cX8_bid 2 = .ok (.invokevirtual 158, 3) := by decide +kernel
theorem dX8_bid_5 : decode cX8_bid 5 = .ok (.ifCond .eq 49, 3) := by decide +kernel
theorem dX8_bid_8 : decode cX8_bid 8 = .ok (.aload_n 0, 1) := by decide +kernel
theorem dX8_bid_9 : decode cX8_bid 9 = .ok (.iload_n 2, 1) := by decide +kernel
theorem dX8_bid_10 : decode cX8_bid 10 = .ok (.invokevirtual 158, 3) := by decide +kernel
theorem dX8_bid_13 : decode cX8_bid 13 = .ok (.ifCond .eq 41, 3) := by decide +kernel
theorem dX8_bid_16 : decode cX8_bid 16 = .ok (.iload_n 1, 1) := by decide +kernel
theorem dX8_bid_17 : decode cX8_bid 17 = .ok (.iload_n 2, 1) := by decide +kernel
theorem dX8_bid_18 : decode cX8_bid 18 = .ok (.if_icmp .gt 36, 3) := by decide +kernel
theorem dX8_bid_21 : decode cX8_bid 21 = .ok (.iload_n 3, 1) := by decide +kernel
theorem dX8_bid_22 : decode cX8_bid 22 = .ok (.i2l, 1) := by decide +kernel
theorem dX8_bid_23 : decode cX8_bid 23 = .ok (.ldc2_w 211, 3) := by decide +kernel
theorem dX8_bid_26 : decode cX8_bid 26 = .ok (.ldc2_w 118, 3) := by decide +kernel
theorem dX8_bid_29 : decode cX8_bid 29 = .ok (.invokestatic 81, 3) := by decide +kernel
theorem dX8_bid_32 : decode cX8_bid 32 = .ok (.ifCond .eq 22, 3) := by decide +kernel
theorem dX8_bid_35 : decode cX8_bid 35 = .ok (.iload_n 3, 1) := by decide +kernel
theorem dX8_bid_36 : decode cX8_bid 36 = .ok (.ifCond .eq 18, 3) := by decide +kernel
theorem dX8_bid_39 : decode cX8_bid 39 = .ok (.iload 4, 2) := by decide +kernel
theorem dX8_bid_41 : decode cX8_bid 41 = .ok (.i2l, 1) := by decide +kernel
theorem dX8_bid_42 : decode cX8_bid 42 = .ok (.ldc2_w 213, 3) := by decide +kernel
theorem dX8_bid_45 : decode cX8_bid 45 = .ok (.ldc2_w 215, 3) := by decide +kernel
theorem dX8_bid_48 : decode cX8_bid 48 = .ok (.invokestatic 81, 3) := by decide +kernel
theorem dX8_bid_51 : decode cX8_bid 51 = .ok (.ifCond .ne 7, 3) := by decide +kernel
theorem dX8_bid_54 : decode cX8_bid 54 = .ok (.ldc2_w 87, 3) := by decide +kernel
theorem dX8_bid_57 : decode cX8_bid 57 = .ok (.lreturn, 1) := by decide +kernel
theorem dX8_bid_58 : decode cX8_bid 58 = .ok (.aload_n 0, 1) := by decide +kernel
theorem dX8_bid_59 : decode cX8_bid 59 = .ok (.getfield 89, 3) := by decide +kernel
theorem dX8_bid_62 : decode cX8_bid 62 = .ok (.bipush 12, 2) := by decide +kernel
theorem dX8_bid_64 : decode cX8_bid 64 = .ok (.if_icmp .ne 7, 3) := by decide +kernel
theorem dX8_bid_67 : decode cX8_bid 67 = .ok (.ldc2_w 217, 3) := by decide +kernel
theorem dX8_bid_70 : decode cX8_bid 70 = .ok (.lreturn, 1) := by decide +kernel
theorem dX8_bid_71 : decode cX8_bid 71 = .ok (.aload_n 0, 1) := by decide +kernel
theorem dX8_bid_72 : decode cX8_bid 72 = .ok (.getfield 60, 3) := by decide +kernel
theorem dX8_bid_75 : decode cX8_bid 75 = .ok (.iconst 4, 1) := by decide +kernel
theorem dX8_bid_76 : decode cX8_bid 76 = .ok (.aload_n 0, 1) := by decide +kernel
theorem dX8_bid_77 : decode cX8_bid 77 = .ok (.getfield 89, 3) := by decide +kernel
theorem dX8_bid_80 : decode cX8_bid 80 = .ok (.imul, 1) := by decide +kernel
theorem dX8_bid_81 : decode cX8_bid 81 = .ok (.iload_n 1, 1) := by decide +kernel
theorem dX8_bid_82 : decode cX8_bid 82 = .ok (.iastore, 1) := by decide +kernel
theorem dX8_bid_83 : decode cX8_bid 83 = .ok (.aload_n 0, 1) := by decide +kernel
theorem dX8_bid_84 : decode cX8_bid 84 = .ok (.getfield 60, 3) := by decide +kernel
theorem dX8_bid_87 : decode cX8_bid 87 = .ok (.iconst 4, 1) := by decide +kernel
theorem dX8_bid_88 : decode cX8_bid 88 = .ok (.aload_n 0, 1) := by decide +kernel
theorem dX8_bid_89 : decode cX8_bid 89 = .ok (.getfield 89, 3) := by decide +kernel
theorem dX8_bid_92 : decode cX8_bid 92 = .ok (.imul, 1) := by decide +kernel
theorem dX8_bid_93 : decode cX8_bid 93 = .ok (.iconst 1, 1) := by decide +kernel
theorem dX8_bid_94 : decode cX8_bid 94 = .ok (.iadd, 1) := by decide +kernel
theorem dX8_bid_95 : decode cX8_bid 95 = .ok (.iload_n 2, 1) := by decide +kernel
theorem dX8_bid_96 : decode cX8_bid 96 = .ok (.iastore, 1) := by decide +kernel
theorem dX8_bid_97 : decode cX8_bid 97 = .ok (.aload_n 0, 1) := by decide +kernel
theorem dX8_bid_98 : decode cX8_bid 98 = .ok (.getfield 60, 3) := by decide +kernel
theorem dX8_bid_101 : decode cX8_bid 101 = .ok (.iconst 4, 1) := by decide +kernel
theorem dX8_bid_102 : decode cX8_bid 102 = .ok (.aload_n 0, 1) := by decide +kernel
theorem dX8_bid_103 : decode cX8_bid 103 = .ok (.getfield 89, 3) := by decide +kernel
theorem dX8_bid_106 : decode cX8_bid 106 = .ok (.imul, 1) := by decide +kernel
theorem dX8_bid_107 : decode cX8_bid 107 = .ok (.iconst 2, 1) := by decide +kernel
theorem dX8_bid_108 : decode cX8_bid 108 = .ok (.iadd, 1) := by decide +kernel
theorem dX8_bid_109 : decode cX8_bid 109 = .ok (.iload_n 3, 1) := by decide +kernel
theorem dX8_bid_110 : decode cX8_bid 110 = .ok (.iastore, 1) := by decide +kernel
theorem dX8_bid_111 : decode cX8_bid 111 = .ok (.aload_n 0, 1) := by decide +kernel
theorem dX8_bid_112 : decode cX8_bid 112 = .ok (.getfield 60, 3) := by decide +kernel
theorem dX8_bid_115 : decode cX8_bid 115 = .ok (.iconst 4, 1) := by decide +kernel
theorem dX8_bid_116 : decode cX8_bid 116 = .ok (.aload_n 0, 1) := by decide +kernel
theorem dX8_bid_117 : decode cX8_bid 117 = .ok (.getfield 89, 3) := by decide +kernel
theorem dX8_bid_120 : decode cX8_bid 120 = .ok (.imul, 1) := by decide +kernel
theorem dX8_bid_121 : decode cX8_bid 121 = .ok (.iconst 3, 1) := by decide +kernel
theorem dX8_bid_122 : decode cX8_bid 122 = .ok (.iadd, 1) := by decide +kernel
theorem dX8_bid_123 : decode cX8_bid 123 = .ok (.iload 4, 2) := by decide +kernel
theorem dX8_bid_125 : decode cX8_bid 125 = .ok (.iastore, 1) := by decide +kernel
theorem dX8_bid_126 : decode cX8_bid 126 = .ok (.aload_n 0, 1) := by decide +kernel
theorem dX8_bid_127 : decode cX8_bid 127 = .ok (.dup, 1) := by decide +kernel
theorem dX8_bid_128 : decode cX8_bid 128 = .ok (.getfield 89, 3) := by decide +kernel
end
section
theorem dX8_bid_131 : decode cX8_bid 131 = .ok (.iconst 1, 1) := by decide +kernel
theorem dX8_bid_132 : decode cX8_bid 132 = .ok (.iadd, 1) := by decide +kernel
theorem dX8_bid_133 : decode cX8_bid 133 = .ok (.putfield 89, 3) := by decide +kernel
theorem dX8_bid_136 : decode cX8_bid 136 = .ok (.aload_n 0, 1) := by decide +kernel
theorem dX8_bid_137 : decode cX8_bid 137 = .ok (.getfield 89, 3) := by decide +kernel
theorem dX8_bid_140 : decode cX8_bid 140 = .ok (.iconst 1, 1) := by decide +kernel
theorem dX8_bid_141 : decode cX8_bid 141 = .ok (.isub, 1) := by decide +kernel
theorem dX8_bid_142 : decode cX8_bid 142 = .ok (.i2l, 1) := by decide +kernel
theorem dX8_bid_143 : decode cX8_bid 143 = .ok (.lreturn, 1) := by decide +kernel
theorem dX8_unbid_0 : decode cX8_unbid 0 = .ok (.aload_n 0, 1) := by decide +kernel
theorem dX8_unbid_1 : decode cX8_unbid 1 = .ok (.getfield 89, 3) := by decide +kernel
theorem dX8_unbid_4 : decode cX8_unbid 4 = .ok (.ifCond .ne 7, 3) := by decide +kernel
theorem dX8_unbid_7 : decode cX8_unbid 7 = .ok (.ldc2_w 108, 3) := by decide +kernel
theorem dX8_unbid_10 : decode cX8_unbid 10 = .ok (.lreturn, 1) := by decide +kernel
theorem dX8_unbid_11 : decode cX8_unbid 11 = .ok (.aload_n 0, 1) := by decide +kernel
theorem dX8_unbid_12 : decode cX8_unbid 12 = .ok (.dup, 1) := by decide +kernel
theorem dX8_unbid_13 : decode cX8_unbid 13 = .ok (.getfield 89, 3) := by decide +kernel
theorem dX8_unbid_16 : decode cX8_unbid 16 = .ok (.iconst 1, 1) := by decide +kernel
theorem dX8_unbid_17 : decode cX8_unbid 17 = .ok (.isub, 1) := by decide +kernel
theorem dX8_unbid_18 : decode cX8_unbid 18 = .ok (.putfield 89, 3) := by decide +kernel
theorem dX8_unbid_21 : decode cX8_unbid 21 = .ok (.aload_n 0, 1) := by decide +kernel
theorem dX8_unbid_22 : decode cX8_unbid 22 = .ok (.getfield 89, 3) := by decide +kernel
theorem dX8_unbid_25 : decode cX8_unbid 25 = .ok (.i2l, 1) := by decide +kernel
theorem dX8_unbid_26 : decode cX8_unbid 26 = .ok (.lreturn, 1) := by decide +kernel
theorem dX8_isTaken_0 : decode cX8_isTaken 0 = .ok (.lconst 0, 1) := by decide +kernel
theorem dX8_isTaken_1 : decode cX8_isTaken 1 = .ok (.lstore_n 3, 1) := by decide +kernel
theorem dX8_isTaken_2 : decode cX8_isTaken 2 = .ok (.aload_n 0, 1) := by decide +kernel
theorem dX8_isTaken_3 : decode cX8_isTaken 3 = .ok (.getfield 60, 3) := by decide +kernel
theorem dX8_isTaken_6 : decode cX8_isTaken 6 = .ok (.iconst 4, 1) := by decide +kernel
theorem dX8_isTaken_7 : decode cX8_isTaken 7 = .ok (.iload_n 1, 1) := by decide +kernel
theorem dX8_isTaken_8 : decode cX8_isTaken 8 = .ok (.imul, 1) := by decide +kernel
theorem dX8_isTaken_9 : decode cX8_isTaken 9 = .ok (.iaload, 1) := by decide +kernel
theorem dX8_isTaken_10 : decode cX8_isTaken 10 = .ok (.istore 5, 2) := by decide +kernel
theorem dX8_isTaken_12 : decode cX8_isTaken 12 = .ok (.iload 5, 2) := by decide +kernel
theorem dX8_isTaken_14 : decode cX8_isTaken 14 = .ok (.aload_n 0, 1) := by decide +kernel
theorem dX8_isTaken_15 : decode cX8_isTaken 15 = .ok (.getfield 60, 3) := by decide +kernel
theorem dX8_isTaken_18 : decode cX8_isTaken 18 = .ok (.iconst 4, 1) := by decide +kernel
theorem dX8_isTaken_19 : decode cX8_isTaken 19 = .ok (.iload_n 1, 1) := by decide +kernel
theorem dX8_isTaken_20 : decode cX8_isTaken 20 = .ok (.imul, 1) := by decide +kernel
theorem dX8_isTaken_21 : decode cX8_isTaken 21 = .ok (.iconst 1, 1) := by decide +kernel
theorem dX8_isTaken_22 : decode cX8_isTaken 22 = .ok (.iadd, 1) := by decide +kernel
theorem dX8_isTaken_23 : decode cX8_isTaken 23 = .ok (.iaload, 1) := by decide +kernel
theorem dX8_isTaken_24 : decode cX8_isTaken 24 = .ok (.if_icmp .gt 31, 3) := by decide +kernel
theorem dX8_isTaken_27 : decode cX8_isTaken 27 = .ok (.lload_n 3, 1) := by decide +kernel
theorem dX8_isTaken_28 : decode cX8_isTaken 28 = .ok (.aload_n 0, 1) := by decide +kernel
theorem dX8_isTaken_29 : decode cX8_isTaken 29 = .ok (.iload_n 2, 1) := by decide +kernel
theorem dX8_isTaken_30 : decode cX8_isTaken 30 = .ok (.iload 5, 2) := by decide +kernel
theorem dX8_isTaken_32 : decode cX8_isTaken 32 = .ok (.invokevirtual 110, 3) := by decide +kernel
theorem dX8_isTaken_35 : decode cX8_isTaken 35 = .ok (.aload_n 0, 1) := by decide +kernel
theorem dX8_isTaken_36 : decode cX8_isTaken 36 = .ok (.getfield 60, 3) := by decide +kernel
theorem dX8_isTaken_39 : decode cX8_isTaken 39 = .ok (.iconst 4, 1) := by decide +kernel
theorem dX8_isTaken_40 : decode cX8_isTaken 40 = .ok (.iload_n 1, 1) := by decide +kernel
theorem dX8_isTaken_41 : decode cX8_isTaken 41 = .ok (.imul, 1) := by decide +kernel
theorem dX8_isTaken_42 : decode cX8_isTaken 42 = .ok (.iconst 3, 1) := by decide +kernel
theorem dX8_isTaken_43 : decode cX8_isTaken 43 = .ok (.iadd, 1) := by decide +kernel
theorem dX8_isTaken_44 : decode cX8_isTaken 44 = .ok (.iaload, 1) := by decide +kernel
theorem dX8_isTaken_45 : decode cX8_isTaken 45 = .ok (.isub, 1) := by decide +kernel
theorem dX8_isTaken_46 : decode cX8_isTaken 46 = .ok (.i2l, 1) := by decide +kernel
theorem dX8_isTaken_47 : decode cX8_isTaken 47 = .ok (.ladd, 1) := by decide +kernel
theorem dX8_isTaken_48 : decode cX8_isTaken 48 = .ok (.lstore_n 3, 1) := by decide +kernel
theorem dX8_isTaken_49 : decode cX8_isTaken 49 = .ok (.iinc 5 1, 3) := by decide +kernel
theorem dX8_isTaken_52 : decode cX8_isTaken 52 = .ok (.goto (-40), 3) := by decide +kernel
theorem dX8_isTaken_55 : decode cX8_isTaken 55 = .ok (.aload_n 0, 1) := by decide +kernel
theorem dX8_isTaken_56 : decode cX8_isTaken 56 = .ok (.getfield 60, 3) := by decide +kernel
theorem dX8_isTaken_59 : decode cX8_isTaken 59 = .ok (.iconst 4, 1) := by decide +kernel
theorem dX8_isTaken_60 : decode cX8_isTaken 60 = .ok (.iload_n 1, 1) := by decide +kernel
theorem dX8_isTaken_61 : decode cX8_isTaken 61 = .ok (.imul, 1) := by decide +kernel
theorem dX8_isTaken_62 : decode cX8_isTaken 62 = .ok (.iconst 2, 1) := by decide +kernel
theorem dX8_isTaken_63 : decode cX8_isTaken 63 = .ok (.iadd, 1) := by decide +kernel
theorem dX8_isTaken_64 : decode cX8_isTaken 64 = .ok (.iaload, 1) := by decide +kernel
theorem dX8_isTaken_65 : decode cX8_isTaken 65 = .ok (.ifCond .ge 17, 3) := by decide +kernel
theorem dX8_isTaken_68 : decode cX8_isTaken 68 = .ok (.lload_n 3, 1) := by decide +kernel
theorem dX8_isTaken_69 : decode cX8_isTaken 69 = .ok (.lconst 0, 1) := by decide +kernel
theorem dX8_isTaken_70 : decode cX8_isTaken 70 = .ok (.lcmp, 1) := by decide +kernel
theorem dX8_isTaken_71 : decode cX8_isTaken 71 = .ok (.ifCond .lt 7, 3) := by decide +kernel
theorem dX8_isTaken_74 : decode cX8_isTaken 74 = .ok (.iconst 1, 1) := by decide +kernel
theorem dX8_isTaken_75 : decode cX8_isTaken 75 = .ok (.goto 18, 3) := by decide +kernel
theorem dX8_isTaken_78 : decode cX8_isTaken 78 = .ok (.iconst 0, 1) := by decide +kernel
theorem dX8_isTaken_79 : decode cX8_isTaken 79 = .ok (.goto 14, 3) := by decide +kernel
theorem dX8_isTaken_82 : decode cX8_isTaken 82 = .ok (.lload_n 3, 1) := by decide +kernel
theorem dX8_isTaken_83 : decode cX8_isTaken 83 = .ok (.lconst 0, 1) := by decide +kernel
theorem dX8_isTaken_84 : decode cX8_isTaken 84 = .ok (.lcmp, 1) := by decide +kernel
theorem dX8_isTaken_85 : decode cX8_isTaken 85 = .ok (.ifCond .gt 7, 3) := by decide +kernel
theorem dX8_isTaken_88 : decode cX8_isTaken 88 = .ok (.iconst 1, 1) := by decide +kernel
theorem dX8_isTaken_89 : decode cX8_isTaken 89 = .ok (.goto 4, 3) := by decide +kernel
theorem dX8_isTaken_92 : decode cX8_isTaken 92 = .ok (.iconst 0, 1) := by decide +kernel
theorem dX8_isTaken_93 : decode cX8_isTaken 93 = .ok (.ireturn, 1) := by decide +kernel
theorem dX8_taken_0 : decode cX8_taken 0 = .ok (.iload_n 1, 1) := by decide +kernel
theorem dX8_taken_1 : decode cX8_taken 1 = .ok (.i2l, 1) := by decide +kernel
theorem dX8_taken_2 : decode cX8_taken 2 = .ok (.lconst 0, 1) := by decide +kernel
theorem dX8_taken_3 : decode cX8_taken 3 = .ok (.aload_n 0, 1) := by decide +kernel
theorem dX8_taken_4 : decode cX8_taken 4 = .ok (.getfield 89, 3) := by decide +kernel
theorem dX8_taken_7 : decode cX8_taken 7 = .ok (.iconst 1, 1) := by decide +kernel
theorem dX8_taken_8 : decode cX8_taken 8 = .ok (.isub, 1) := by decide +kernel
theorem dX8_taken_9 : decode cX8_taken 9 = .ok (.i2l, 1) := by decide +kernel
theorem dX8_taken_10 : decode cX8_taken 10 = .ok (.invokestatic 81, 3) := by decide +kernel
theorem dX8_taken_13 : decode cX8_taken 13 = .ok (.ifCond .eq 10, 3) := by decide +kernel
theorem dX8_taken_16 : decode cX8_taken 16 = .ok (.iload_n 2, 1) := by decide +kernel
theorem dX8_taken_17 : decode cX8_taken 17 = .ok (.invokestatic 96, 3) := by decide +kernel
theorem dX8_taken_20 : decode cX8_taken 20 = .ok (.ifCond .ne 7, 3) := by decide +kernel
theorem dX8_taken_23 : decode cX8_taken 23 = .ok (.ldc2_w 87, 3) := by decide +kernel
theorem dX8_taken_26 : decode cX8_taken 26 = .ok (.lreturn, 1) := by decide +kernel
theorem dX8_taken_27 : decode cX8_taken 27 = .ok (.aload_n 0, 1) := by decide +kernel
theorem dX8_taken_28 : decode cX8_taken 28 = .ok (.iload_n 1, 1) := by decide +kernel
theorem dX8_taken_29 : decode cX8_taken 29 = .ok (.iload_n 2, 1) := by decide +kernel
theorem dX8_taken_30 : decode cX8_taken 30 = .ok (.invokevirtual 219, 3) := by decide +kernel
theorem dX8_taken_33 : decode cX8_taken 33 = .ok (.ifCond .eq 7, 3) := by decide +kernel
theorem dX8_taken_36 : decode cX8_taken 36 = .ok (.lconst 1, 1) := by decide +kernel
theorem dX8_taken_37 : decode cX8_taken 37 = .ok (.goto 4, 3) := by decide +kernel
theorem dX8_taken_40 : decode cX8_taken 40 = .ok (.lconst 0, 1) := by decide +kernel
theorem dX8_taken_41 : decode cX8_taken 41 = .ok (.lreturn, 1) := by decide +kernel
theorem dX8_wantedOf_0 : decode cX8_wantedOf 0 = .ok (.iconst 0, 1) := by decide +kernel
theorem dX8_wantedOf_1 : decode cX8_wantedOf 1 = .ok (.istore_n 3, 1) := by decide +kernel
theorem dX8_wantedOf_2 : decode cX8_wantedOf 2 = .ok (.iconst 0, 1) := by decide +kernel
theorem dX8_wantedOf_3 : decode cX8_wantedOf 3 = .ok (.istore 4, 2) := by decide +kernel
theorem dX8_wantedOf_5 : decode cX8_wantedOf 5 = .ok (.iload 4, 2) := by decide +kernel
theorem dX8_wantedOf_7 : decode cX8_wantedOf 7 = .ok (.aload_n 0, 1) := by decide +kernel
theorem dX8_wantedOf_8 : decode cX8_wantedOf 8 = .ok (.getfield 89, 3) := by decide +kernel
theorem dX8_wantedOf_11 : decode cX8_wantedOf 11 = .ok (.if_icmp .ge 65, 3) := by decide +kernel
theorem dX8_wantedOf_14 : decode cX8_wantedOf 14 = .ok (.iload_n 3, 1) := by decide +kernel
theorem dX8_wantedOf_15 : decode cX8_wantedOf 15 = .ok (.iload_n 2, 1) := by decide +kernel
theorem dX8_wantedOf_16 : decode cX8_wantedOf 16 = .ok (.aload_n 0, 1) := by decide +kernel
theorem dX8_wantedOf_17 : decode cX8_wantedOf 17 = .ok (.getfield 60, 3) := by decide +kernel
theorem dX8_wantedOf_20 : decode cX8_wantedOf 20 = .ok (.iconst 4, 1) := by decide +kernel
theorem dX8_wantedOf_21 : decode cX8_wantedOf 21 = .ok (.iload 4, 2) := by decide +kernel
theorem dX8_wantedOf_23 : decode cX8_wantedOf 23 = .ok (.imul, 1) := by decide +kernel
theorem dX8_wantedOf_24 : decode cX8_wantedOf 24 = .ok (.iaload, 1) := by decide +kernel
theorem dX8_wantedOf_25 : decode cX8_wantedOf 25 = .ok (.if_icmp .lt 42, 3) := by decide +kernel
theorem dX8_wantedOf_28 : decode cX8_wantedOf 28 = .ok (.iload_n 2, 1) := by decide +kernel
theorem dX8_wantedOf_29 : decode cX8_wantedOf 29 = .ok (.aload_n 0, 1) := by decide +kernel
theorem dX8_wantedOf_30 : decode cX8_wantedOf 30 = .ok (.getfield 60, 3) := by decide +kernel
theorem dX8_wantedOf_33 : decode cX8_wantedOf 33 = .ok (.iconst 4, 1) := by decide +kernel
theorem dX8_wantedOf_34 : decode cX8_wantedOf 34 = .ok (.iload 4, 2) := by decide +kernel
theorem dX8_wantedOf_36 : decode cX8_wantedOf 36 = .ok (.imul, 1) := by decide +kernel
theorem dX8_wantedOf_37 : decode cX8_wantedOf 37 = .ok (.iconst 1, 1) := by decide +kernel
theorem dX8_wantedOf_38 : decode cX8_wantedOf 38 = .ok (.iadd, 1) := by decide +kernel
theorem dX8_wantedOf_39 : decode cX8_wantedOf 39 = .ok (.iaload, 1) := by decide +kernel
theorem dX8_wantedOf_40 : decode cX8_wantedOf 40 = .ok (.if_icmp .gt 27, 3) := by decide +kernel
theorem dX8_wantedOf_43 : decode cX8_wantedOf 43 = .ok (.aload_n 0, 1) := by decide +kernel
theorem dX8_wantedOf_44 : decode cX8_wantedOf 44 = .ok (.iload 4, 2) := by decide +kernel
theorem dX8_wantedOf_46 : decode cX8_wantedOf 46 = .ok (.iload_n 1, 1) := by decide +kernel
theorem dX8_wantedOf_47 : decode cX8_wantedOf 47 = .ok (.invokevirtual 219, 3) := by decide +kernel
theorem dX8_wantedOf_50 : decode cX8_wantedOf 50 = .ok (.ifCond .eq 17, 3) := by decide +kernel
theorem dX8_wantedOf_53 : decode cX8_wantedOf 53 = .ok (.aload_n 0, 1) := by decide +kernel
theorem dX8_wantedOf_54 : decode cX8_wantedOf 54 = .ok (.getfield 60, 3) := by decide +kernel
theorem dX8_wantedOf_57 : decode cX8_wantedOf 57 = .ok (.iconst 4, 1) := by decide +kernel
theorem dX8_wantedOf_58 : decode cX8_wantedOf 58 = .ok (.iload 4, 2) := by decide +kernel
theorem dX8_wantedOf_60 : decode cX8_wantedOf 60 = .ok (.imul, 1) := by decide +kernel
theorem dX8_wantedOf_61 : decode cX8_wantedOf 61 = .ok (.iconst 2, 1) := by decide +kernel
theorem dX8_wantedOf_62 : decode cX8_wantedOf 62 = .ok (.iadd, 1) := by decide +kernel
theorem dX8_wantedOf_63 : decode cX8_wantedOf 63 = .ok (.iaload, 1) := by decide +kernel
theorem dX8_wantedOf_64 : decode cX8_wantedOf 64 = .ok (.goto 4, 3) := by decide +kernel
theorem dX8_wantedOf_67 : decode cX8_wantedOf 67 = .ok (.iconst 0, 1) := by decide +kernel
theorem dX8_wantedOf_68 : decode cX8_wantedOf 68 = .ok (.iadd, 1) := by decide +kernel
theorem dX8_wantedOf_69 : decode cX8_wantedOf 69 = .ok (.istore_n 3, 1) := by decide +kernel
theorem dX8_wantedOf_70 : decode cX8_wantedOf 70 = .ok (.iinc 4 1, 3) := by decide +kernel
theorem dX8_wantedOf_73 : decode cX8_wantedOf 73 = .ok (.goto (-68), 3) := by decide +kernel
theorem dX8_wantedOf_76 : decode cX8_wantedOf 76 = .ok (.iload_n 3, 1) := by decide +kernel
theorem dX8_wantedOf_77 : decode cX8_wantedOf 77 = .ok (.ireturn, 1) := by decide +kernel
theorem dX8_wanted_0 : decode cX8_wanted 0 = .ok (.iload_n 1, 1) := by decide +kernel
theorem dX8_wanted_1 : decode cX8_wanted 1 = .ok (.invokestatic 96, 3) := by decide +kernel
theorem dX8_wanted_4 : decode cX8_wanted 4 = .ok (.ifCond .ne 7, 3) := by decide +kernel
theorem dX8_wanted_7 : decode cX8_wanted 7 = .ok (.ldc2_w 87, 3) := by decide +kernel
theorem dX8_wanted_10 : decode cX8_wanted 10 = .ok (.lreturn, 1) := by decide +kernel
theorem dX8_wanted_11 : decode cX8_wanted 11 = .ok (.aload_n 0, 1) := by decide +kernel
theorem dX8_wanted_12 : decode cX8_wanted 12 = .ok (.iload_n 2, 1) := by decide +kernel
theorem dX8_wanted_13 : decode cX8_wanted 13 = .ok (.invokevirtual 158, 3) := by decide +kernel
theorem dX8_wanted_16 : decode cX8_wanted 16 = .ok (.ifCond .eq 13, 3) := by decide +kernel
theorem dX8_wanted_19 : decode cX8_wanted 19 = .ok (.aload_n 0, 1) := by decide +kernel
theorem dX8_wanted_20 : decode cX8_wanted 20 = .ok (.iload_n 1, 1) := by decide +kernel
theorem dX8_wanted_21 : decode cX8_wanted 21 = .ok (.iload_n 2, 1) := by decide +kernel
theorem dX8_wanted_22 : decode cX8_wanted 22 = .ok (.invokevirtual 223, 3) := by decide +kernel
theorem dX8_wanted_25 : decode cX8_wanted 25 = .ok (.i2l, 1) := by decide +kernel
theorem dX8_wanted_26 : decode cX8_wanted 26 = .ok (.goto 6, 3) := by decide +kernel
theorem dX8_wanted_29 : decode cX8_wanted 29 = .ok (.ldc2_w 106, 3) := by decide +kernel
theorem dX8_wanted_32 : decode cX8_wanted 32 = .ok (.lreturn, 1) := by decide +kernel
theorem dX8_between_0 : decode cX8_between 0 = .ok (.iload_n 0, 1) := by decide +kernel
theorem dX8_between_1 : decode cX8_between 1 = .ok (.iload_n 1, 1) := by decide +kernel
theorem dX8_between_2 : decode cX8_between 2 = .ok (.if_icmp .ge 7, 3) := by decide +kernel
theorem dX8_between_5 : decode cX8_between 5 = .ok (.iload_n 1, 1) := by decide +kernel
theorem dX8_between_6 : decode cX8_between 6 = .ok (.goto 13, 3) := by decide +kernel
theorem dX8_between_9 : decode cX8_between 9 = .ok (.iload_n 0, 1) := by decide +kernel
theorem dX8_between_10 : decode cX8_between 10 = .ok (.iload_n 2, 1) := by decide +kernel
theorem dX8_between_11 : decode cX8_between 11 = .ok (.if_icmp .le 7, 3) := by decide +kernel
theorem dX8_between_14 : decode cX8_between 14 = .ok (.iload_n 2, 1) := by decide +kernel
theorem dX8_between_15 : decode cX8_between 15 = .ok (.goto 4, 3) := by decide +kernel
theorem dX8_between_18 : decode cX8_between 18 = .ok (.iload_n 0, 1) := by decide +kernel
theorem dX8_between_19 : decode cX8_between 19 = .ok (.ireturn, 1) := by decide +kernel
theorem dX8_fill_0 : decode cX8_fill 0 = .ok (.iload_n 1, 1) := by decide +kernel
theorem dX8_fill_1 : decode cX8_fill 1 = .ok (.invokestatic 124, 3) := by decide +kernel
theorem dX8_fill_4 : decode cX8_fill 4 = .ok (.ifCond .eq 10, 3) := by decide +kernel
theorem dX8_fill_7 : decode cX8_fill 7 = .ok (.iload_n 2, 1) := by decide +kernel
theorem dX8_fill_8 : decode cX8_fill 8 = .ok (.invokestatic 96, 3) := by decide +kernel
theorem dX8_fill_11 : decode cX8_fill 11 = .ok (.ifCond .ne 7, 3) := by decide +kernel
theorem dX8_fill_14 : decode cX8_fill 14 = .ok (.ldc2_w 87, 3) := by decide +kernel
theorem dX8_fill_17 : decode cX8_fill 17 = .ok (.lreturn, 1) := by decide +kernel
theorem dX8_fill_18 : decode cX8_fill 18 = .ok (.aload_n 0, 1) := by decide +kernel
theorem dX8_fill_19 : decode cX8_fill 19 = .ok (.getfield 30, 3) := by decide +kernel
theorem dX8_fill_22 : decode cX8_fill 22 = .ok (.iload_n 1, 1) := by decide +kernel
theorem dX8_fill_23 : decode cX8_fill 23 = .ok (.iaload, 1) := by decide +kernel
theorem dX8_fill_24 : decode cX8_fill 24 = .ok (.ifCond .ge 7, 3) := by decide +kernel
theorem dX8_fill_27 : decode cX8_fill 27 = .ok (.ldc2_w 108, 3) := by decide +kernel
theorem dX8_fill_30 : decode cX8_fill 30 = .ok (.lreturn, 1) := by decide +kernel
theorem dX8_fill_31 : decode cX8_fill 31 = .ok (.lconst 0, 1) := by decide +kernel
theorem dX8_fill_32 : decode cX8_fill 32 = .ok (.lstore_n 3, 1) := by decide +kernel
theorem dX8_fill_33 : decode cX8_fill 33 = .ok (.aload_n 0, 1) := by decide +kernel
theorem dX8_fill_34 : decode cX8_fill 34 = .ok (.getfield 36, 3) := by decide +kernel
theorem dX8_fill_37 : decode cX8_fill 37 = .ok (.iload_n 1, 1) := by decide +kernel
theorem dX8_fill_38 : decode cX8_fill 38 = .ok (.iaload, 1) := by decide +kernel
theorem dX8_fill_39 : decode cX8_fill 39 = .ok (.istore 5, 2) := by decide +kernel
theorem dX8_fill_41 : decode cX8_fill 41 = .ok (.iconst 0, 1) := by decide +kernel
theorem dX8_fill_42 : decode cX8_fill 42 = .ok (.istore 6, 2) := by decide +kernel
theorem dX8_fill_44 : decode cX8_fill 44 = .ok (.iload 6, 2) := by decide +kernel
theorem dX8_fill_46 : decode cX8_fill 46 = .ok (.aload_n 0, 1) := by decide +kernel
theorem dX8_fill_47 : decode cX8_fill 47 = .ok (.getfield 7, 3) := by decide +kernel
theorem dX8_fill_50 : decode cX8_fill 50 = .ok (.if_icmp .ge 119, 3) := by decide +kernel
theorem dX8_fill_53 : decode cX8_fill 53 = .ok (.aload_n 0, 1) := by decide +kernel
theorem dX8_fill_54 : decode cX8_fill 54 = .ok (.iload_n 2, 1) := by decide +kernel
theorem dX8_fill_55 : decode cX8_fill 55 = .ok (.iload 6, 2) := by decide +kernel
theorem dX8_fill_57 : decode cX8_fill 57 = .ok (.invokevirtual 223, 3) := by decide +kernel
theorem dX8_fill_60 : decode cX8_fill 60 = .ok (.istore 7, 2) := by decide +kernel
theorem dX8_fill_62 : decode cX8_fill 62 = .ok (.aload_n 0, 1) := by decide +kernel
theorem dX8_fill_63 : decode cX8_fill 63 = .ok (.getfield 13, 3) := by decide +kernel
theorem dX8_fill_66 : decode cX8_fill 66 = .ok (.iload 6, 2) := by decide +kernel
theorem dX8_fill_68 : decode cX8_fill 68 = .ok (.baload, 1) := by decide +kernel
theorem dX8_fill_69 : decode cX8_fill 69 = .ok (.ifCond .eq 7, 3) := by decide +kernel
theorem dX8_fill_72 : decode cX8_fill 72 = .ok (.iconst 0, 1) := by decide +kernel
theorem dX8_fill_73 : decode cX8_fill 73 = .ok (.goto 19, 3) := by decide +kernel
theorem dX8_fill_76 : decode cX8_fill 76 = .ok (.iload 7, 2) := by decide +kernel
theorem dX8_fill_78 : decode cX8_fill 78 = .ok (.aload_n 0, 1) := by decide +kernel
theorem dX8_fill_79 : decode cX8_fill 79 = .ok (.iload_n 1, 1) := by decide +kernel
theorem dX8_fill_80 : decode cX8_fill 80 = .ok (.invokevirtual 152, 3) := by decide +kernel
theorem dX8_fill_83 : decode cX8_fill 83 = .ok (.ineg, 1) := by decide +kernel
theorem dX8_fill_84 : decode cX8_fill 84 = .ok (.aload_n 0, 1) := by decide +kernel
theorem dX8_fill_85 : decode cX8_fill 85 = .ok (.iload_n 1, 1) := by decide +kernel
theorem dX8_fill_86 : decode cX8_fill 86 = .ok (.invokevirtual 149, 3) := by decide +kernel
theorem dX8_fill_89 : decode cX8_fill 89 = .ok (.invokestatic 226, 3) := by decide +kernel
theorem dX8_fill_92 : decode cX8_fill 92 = .ok (.istore 8, 2) := by decide +kernel
theorem dX8_fill_94 : decode cX8_fill 94 = .ok (.iload 8, 2) := by decide +kernel
theorem dX8_fill_96 : decode cX8_fill 96 = .ok (.aload_n 0, 1) := by decide +kernel
theorem dX8_fill_97 : decode cX8_fill 97 = .ok (.iload_n 1, 1) := by decide +kernel
theorem dX8_fill_98 : decode cX8_fill 98 = .ok (.invokevirtual 132, 3) := by decide +kernel
theorem dX8_fill_101 : decode cX8_fill 101 = .ok (.iload 5, 2) := by decide +kernel
theorem dX8_fill_103 : decode cX8_fill 103 = .ok (.isub, 1) := by decide +kernel
theorem dX8_fill_104 : decode cX8_fill 104 = .ok (.aload_n 0, 1) := by decide +kernel
theorem dX8_fill_105 : decode cX8_fill 105 = .ok (.iload_n 1, 1) := by decide +kernel
theorem dX8_fill_106 : decode cX8_fill 106 = .ok (.invokevirtual 146, 3) := by decide +kernel
theorem dX8_fill_109 : decode cX8_fill 109 = .ok (.iload 5, 2) := by decide +kernel
theorem dX8_fill_111 : decode cX8_fill 111 = .ok (.isub, 1) := by decide +kernel
theorem dX8_fill_112 : decode cX8_fill 112 = .ok (.invokestatic 226, 3) := by decide +kernel
theorem dX8_fill_115 : decode cX8_fill 115 = .ok (.istore 8, 2) := by decide +kernel
theorem dX8_fill_117 : decode cX8_fill 117 = .ok (.aload_n 0, 1) := by decide +kernel
theorem dX8_fill_118 : decode cX8_fill 118 = .ok (.getfield 57, 3) := by decide +kernel
theorem dX8_fill_121 : decode cX8_fill 121 = .ok (.bipush 36, 2) := by decide +kernel
theorem dX8_fill_123 : decode cX8_fill 123 = .ok (.iload_n 1, 1) := by decide +kernel
theorem dX8_fill_124 : decode cX8_fill 124 = .ok (.imul, 1) := by decide +kernel
theorem dX8_fill_125 : decode cX8_fill 125 = .ok (.iload 6, 2) := by decide +kernel
theorem dX8_fill_127 : decode cX8_fill 127 = .ok (.iadd, 1) := by decide +kernel
theorem dX8_fill_128 : decode cX8_fill 128 = .ok (.iload 8, 2) := by decide +kernel
theorem dX8_fill_130 : decode cX8_fill 130 = .ok (.iastore, 1) := by decide +kernel
theorem dX8_fill_131 : decode cX8_fill 131 = .ok (.iload 5, 2) := by decide +kernel
theorem dX8_fill_133 : decode cX8_fill 133 = .ok (.iload 8, 2) := by decide +kernel
theorem dX8_fill_135 : decode cX8_fill 135 = .ok (.iadd, 1) := by decide +kernel
theorem dX8_fill_136 : decode cX8_fill 136 = .ok (.istore 5, 2) := by decide +kernel
theorem dX8_fill_138 : decode cX8_fill 138 = .ok (.lload_n 3, 1) := by decide +kernel
theorem dX8_fill_139 : decode cX8_fill 139 = .ok (.iload 7, 2) := by decide +kernel
theorem dX8_fill_141 : decode cX8_fill 141 = .ok (.iload 8, 2) := by decide +kernel
theorem dX8_fill_143 : decode cX8_fill 143 = .ok (.if_icmp .le 12, 3) := by decide +kernel
theorem dX8_fill_146 : decode cX8_fill 146 = .ok (.iload 7, 2) := by decide +kernel
theorem dX8_fill_148 : decode cX8_fill 148 = .ok (.iload 8, 2) := by decide +kernel
theorem dX8_fill_150 : decode cX8_fill 150 = .ok (.isub, 1) := by decide +kernel
theorem dX8_fill_151 : decode cX8_fill 151 = .ok (.i2l, 1) := by decide +kernel
theorem dX8_fill_152 : decode cX8_fill 152 = .ok (.goto 9, 3) := by decide +kernel
theorem dX8_fill_155 : decode cX8_fill 155 = .ok (.iload 8, 2) := by decide +kernel
theorem dX8_fill_157 : decode cX8_fill 157 = .ok (.iload 7, 2) := by decide +kernel
theorem dX8_fill_159 : decode cX8_fill 159 = .ok (.isub, 1) := by decide +kernel
theorem dX8_fill_160 : decode cX8_fill 160 = .ok (.i2l, 1) := by decide +kernel
theorem dX8_fill_161 : decode cX8_fill 161 = .ok (.ladd, 1) := by decide +kernel
theorem dX8_fill_162 : decode cX8_fill 162 = .ok (.lstore_n 3, 1) := by decide +kernel
theorem dX8_fill_163 : decode cX8_fill 163 = .ok (.iinc 6 1, 3) := by decide +kernel
theorem dX8_fill_166 : decode cX8_fill 166 = .ok (.goto (-122), 3) := by decide +kernel
theorem dX8_fill_169 : decode cX8_fill 169 = .ok (.lload_n 3, 1) := by decide +kernel
theorem dX8_fill_170 : decode cX8_fill 170 = .ok (.lreturn, 1) := by decide +kernel
theorem dX8_meter_0 : decode cX8_meter 0 = .ok (.iload_n 1, 1) := by decide +kernel
theorem dX8_meter_1 : decode cX8_meter 1 = .ok (.i2l, 1) := by decide +kernel
theorem dX8_meter_2 : decode cX8_meter 2 = .ok (.lconst 0, 1) := by decide +kernel
theorem dX8_meter_3 : decode cX8_meter 3 = .ok (.ldc2_w 92, 3) := by decide +kernel
theorem dX8_meter_6 : decode cX8_meter 6 = .ok (.invokestatic 81, 3) := by decide +kernel
theorem dX8_meter_9 : decode cX8_meter 9 = .ok (.ifCond .eq 17, 3) := by decide +kernel
theorem dX8_meter_12 : decode cX8_meter 12 = .ok (.iload_n 2, 1) := by decide +kernel
theorem dX8_meter_13 : decode cX8_meter 13 = .ok (.i2l, 1) := by decide +kernel
theorem dX8_meter_14 : decode cX8_meter 14 = .ok (.ldc2_w 230, 3) := by decide +kernel
theorem dX8_meter_17 : decode cX8_meter 17 = .ok (.ldc2_w 232, 3) := by decide +kernel
theorem dX8_meter_20 : decode cX8_meter 20 = .ok (.invokestatic 81, 3) := by decide +kernel
theorem dX8_meter_23 : decode cX8_meter 23 = .ok (.ifCond .ne 7, 3) := by decide +kernel
theorem dX8_meter_26 : decode cX8_meter 26 = .ok (.ldc2_w 87, 3) := by decide +kernel
theorem dX8_meter_29 : decode cX8_meter 29 = .ok (.lreturn, 1) := by decide +kernel
theorem dX8_meter_30 : decode cX8_meter 30 = .ok (.aload_n 0, 1) := by decide +kernel
theorem dX8_meter_31 : decode cX8_meter 31 = .ok (.getfield 63, 3) := by decide +kernel
theorem dX8_meter_34 : decode cX8_meter 34 = .ok (.iload_n 1, 1) := by decide +kernel
theorem dX8_meter_35 : decode cX8_meter 35 = .ok (.iaload, 1) := by decide +kernel
theorem dX8_meter_36 : decode cX8_meter 36 = .ok (.i2l, 1) := by decide +kernel
theorem dX8_meter_37 : decode cX8_meter 37 = .ok (.lstore_n 3, 1) := by decide +kernel
theorem dX8_meter_38 : decode cX8_meter 38 = .ok (.aload_n 0, 1) := by decide +kernel
theorem dX8_meter_39 : decode cX8_meter 39 = .ok (.getfield 63, 3) := by decide +kernel
theorem dX8_meter_42 : decode cX8_meter 42 = .ok (.iload_n 1, 1) := by decide +kernel
theorem dX8_meter_43 : decode cX8_meter 43 = .ok (.iload_n 2, 1) := by decide +kernel
theorem dX8_meter_44 : decode cX8_meter 44 = .ok (.iastore, 1) := by decide +kernel
theorem dX8_meter_45 : decode cX8_meter 45 = .ok (.lload_n 3, 1) := by decide +kernel
theorem dX8_meter_46 : decode cX8_meter 46 = .ok (.lreturn, 1) := by decide +kernel
theorem dX8_nearest_0 : decode cX8_nearest 0 = .ok (.iload_n 1, 1) := by decide +kernel
theorem dX8_nearest_1 : decode cX8_nearest 1 = .ok (.iload_n 2, 1) := by decide +kernel
theorem dX8_nearest_2 : decode cX8_nearest 2 = .ok (.iadd, 1) := by decide +kernel
theorem dX8_nearest_3 : decode cX8_nearest 3 = .ok (.istore_n 3, 1) := by decide +kernel
theorem dX8_nearest_4 : decode cX8_nearest 4 = .ok (.iload_n 3, 1) := by decide +kernel
theorem dX8_nearest_5 : decode cX8_nearest 5 = .ok (.ifCond .lt 35, 3) := by decide +kernel
theorem dX8_nearest_8 : decode cX8_nearest 8 = .ok (.iload_n 3, 1) := by decide +kernel
theorem dX8_nearest_9 : decode cX8_nearest 9 = .ok (.bipush 36, 2) := by decide +kernel
theorem dX8_nearest_11 : decode cX8_nearest 11 = .ok (.if_icmp .ge 29, 3) := by decide +kernel
theorem dX8_nearest_14 : decode cX8_nearest 14 = .ok (.aload_n 0, 1) := by decide +kernel
theorem dX8_nearest_15 : decode cX8_nearest 15 = .ok (.getfield 63, 3) := by decide +kernel
theorem dX8_nearest_18 : decode cX8_nearest 18 = .ok (.iload_n 3, 1) := by decide +kernel
theorem dX8_nearest_19 : decode cX8_nearest 19 = .ok (.iaload, 1) := by decide +kernel
theorem dX8_nearest_20 : decode cX8_nearest 20 = .ok (.sipush (-1001), 3) := by decide +kernel
theorem dX8_nearest_23 : decode cX8_nearest 23 = .ok (.if_icmp .eq 10, 3) := by decide +kernel
theorem dX8_nearest_26 : decode cX8_nearest 26 = .ok (.aload_n 0, 1) := by decide +kernel
theorem dX8_nearest_27 : decode cX8_nearest 27 = .ok (.getfield 63, 3) := by decide +kernel
theorem dX8_nearest_30 : decode cX8_nearest 30 = .ok (.iload_n 3, 1) := by decide +kernel
theorem dX8_nearest_31 : decode cX8_nearest 31 = .ok (.iaload, 1) := by decide +kernel
theorem dX8_nearest_32 : decode cX8_nearest 32 = .ok (.ireturn, 1) := by decide +kernel
theorem dX8_nearest_33 : decode cX8_nearest 33 = .ok (.iload_n 3, 1) := by decide +kernel
theorem dX8_nearest_34 : decode cX8_nearest 34 = .ok (.iload_n 2, 1) := by decide +kernel
theorem dX8_nearest_35 : decode cX8_nearest 35 = .ok (.iadd, 1) := by decide +kernel
theorem dX8_nearest_36 : decode cX8_nearest 36 = .ok (.istore_n 3, 1) := by decide +kernel
theorem dX8_nearest_37 : decode cX8_nearest 37 = .ok (.goto (-33), 3) := by decide +kernel
theorem dX8_nearest_40 : decode cX8_nearest 40 = .ok (.sipush (-1001), 3) := by decide +kernel
theorem dX8_nearest_43 : decode cX8_nearest 43 = .ok (.ireturn, 1) := by decide +kernel
theorem dX8_counts_0 : decode cX8_counts 0 = .ok (.iload_n 1, 1) := by decide +kernel
theorem dX8_counts_1 : decode cX8_counts 1 = .ok (.i2l, 1) := by decide +kernel
theorem dX8_counts_2 : decode cX8_counts 2 = .ok (.lconst 0, 1) := by decide +kernel
theorem dX8_counts_3 : decode cX8_counts 3 = .ok (.ldc2_w 92, 3) := by decide +kernel
theorem dX8_counts_6 : decode cX8_counts 6 = .ok (.invokestatic 81, 3) := by decide +kernel
theorem dX8_counts_9 : decode cX8_counts 9 = .ok (.ifCond .ne 7, 3) := by decide +kernel
theorem dX8_counts_12 : decode cX8_counts 12 = .ok (.ldc2_w 87, 3) := by decide +kernel
theorem dX8_counts_15 : decode cX8_counts 15 = .ok (.lreturn, 1) := by decide +kernel
theorem dX8_counts_16 : decode cX8_counts 16 = .ok (.aload_n 0, 1) := by decide +kernel
theorem dX8_counts_17 : decode cX8_counts 17 = .ok (.getfield 63, 3) := by decide +kernel
theorem dX8_counts_20 : decode cX8_counts 20 = .ok (.iload_n 1, 1) := by decide +kernel
theorem dX8_counts_21 : decode cX8_counts 21 = .ok (.iaload, 1) := by decide +kernel
theorem dX8_counts_22 : decode cX8_counts 22 = .ok (.sipush (-1001), 3) := by decide +kernel
theorem dX8_counts_25 : decode cX8_counts 25 = .ok (.if_icmp .eq 11, 3) := by decide +kernel
theorem dX8_counts_28 : decode cX8_counts 28 = .ok (.aload_n 0, 1) := by decide +kernel
theorem dX8_counts_29 : decode cX8_counts 29 = .ok (.getfield 63, 3) := by decide +kernel
theorem dX8_counts_32 : decode cX8_counts 32 = .ok (.iload_n 1, 1) := by decide +kernel
theorem dX8_counts_33 : decode cX8_counts 33 = .ok (.iaload, 1) := by decide +kernel
theorem dX8_counts_34 : decode cX8_counts 34 = .ok (.i2l, 1) := by decide +kernel
theorem dX8_counts_35 : decode cX8_counts 35 = .ok (.lreturn, 1) := by decide +kernel
theorem dX8_counts_36 : decode cX8_counts 36 = .ok (.aload_n 0, 1) := by decide +kernel
theorem dX8_counts_37 : decode cX8_counts 37 = .ok (.iload_n 1, 1) := by decide +kernel
theorem dX8_counts_38 : decode cX8_counts 38 = .ok (.iconst (-1), 1) := by decide +kernel
theorem dX8_counts_39 : decode cX8_counts 39 = .ok (.invokevirtual 234, 3) := by decide +kernel
theorem dX8_counts_42 : decode cX8_counts 42 = .ok (.istore_n 2, 1) := by decide +kernel
theorem dX8_counts_43 : decode cX8_counts 43 = .ok (.aload_n 0, 1) := by decide +kernel
theorem dX8_counts_44 : decode cX8_counts 44 = .ok (.iload_n 1, 1) := by decide +kernel
theorem dX8_counts_45 : decode cX8_counts 45 = .ok (.iconst 1, 1) := by decide +kernel
theorem dX8_counts_46 : decode cX8_counts 46 = .ok (.invokevirtual 234, 3) := by decide +kernel
theorem dX8_counts_49 : decode cX8_counts 49 = .ok (.istore_n 3, 1) := by decide +kernel
theorem dX8_counts_50 : decode cX8_counts 50 = .ok (.iload_n 2, 1) := by decide +kernel
theorem dX8_counts_51 : decode cX8_counts 51 = .ok (.sipush (-1001), 3) := by decide +kernel
theorem dX8_counts_54 : decode cX8_counts 54 = .ok (.if_icmp .ne 17, 3) := by decide +kernel
theorem dX8_counts_57 : decode cX8_counts 57 = .ok (.iload_n 3, 1) := by decide +kernel
theorem dX8_counts_58 : decode cX8_counts 58 = .ok (.sipush (-1001), 3) := by decide +kernel
theorem dX8_counts_61 : decode cX8_counts 61 = .ok (.if_icmp .ne 7, 3) := by decide +kernel
theorem dX8_counts_64 : decode cX8_counts 64 = .ok (.lconst 0, 1) := by decide +kernel
theorem dX8_counts_65 : decode cX8_counts 65 = .ok (.goto 5, 3) := by decide +kernel
theorem dX8_counts_68 : decode cX8_counts 68 = .ok (.iload_n 3, 1) := by decide +kernel
theorem dX8_counts_69 : decode cX8_counts 69 = .ok (.i2l, 1) := by decide +kernel
theorem dX8_counts_70 : decode cX8_counts 70 = .ok (.lreturn, 1) := by decide +kernel
theorem dX8_counts_71 : decode cX8_counts 71 = .ok (.iload_n 3, 1) := by decide +kernel
theorem dX8_counts_72 : decode cX8_counts 72 = .ok (.sipush (-1001), 3) := by decide +kernel
theorem dX8_counts_75 : decode cX8_counts 75 = .ok (.if_icmp .ne 8, 3) := by decide +kernel
theorem dX8_counts_78 : decode cX8_counts 78 = .ok (.iload_n 2, 1) := by decide +kernel
theorem dX8_counts_79 : decode cX8_counts 79 = .ok (.i2l, 1) := by decide +kernel
theorem dX8_counts_80 : decode cX8_counts 80 = .ok (.goto 11, 3) := by decide +kernel
theorem dX8_counts_83 : decode cX8_counts 83 = .ok (.iload_n 2, 1) := by decide +kernel
theorem dX8_counts_84 : decode cX8_counts 84 = .ok (.iload_n 3, 1) := by decide +kernel
theorem dX8_counts_85 : decode cX8_counts 85 = .ok (.iadd, 1) := by decide +kernel
theorem dX8_counts_86 : decode cX8_counts 86 = .ok (.iconst 2, 1) := by decide +kernel
theorem dX8_counts_87 : decode cX8_counts 87 = .ok (.invokestatic 237, 3) := by decide +kernel
theorem dX8_counts_90 : decode cX8_counts 90 = .ok (.i2l, 1) := by decide +kernel
theorem dX8_counts_91 : decode cX8_counts 91 = .ok (.lreturn, 1) := by decide +kernel
theorem dX8_live_0 : decode cX8_live 0 = .ok (.iload_n 1, 1) := by decide +kernel
theorem dX8_live_1 : decode cX8_live 1 = .ok (.invokestatic 124, 3) := by decide +kernel
theorem dX8_live_4 : decode cX8_live 4 = .ok (.ifCond .eq 10, 3) := by decide +kernel
theorem dX8_live_7 : decode cX8_live 7 = .ok (.iload_n 2, 1) := by decide +kernel
theorem dX8_live_8 : decode cX8_live 8 = .ok (.invokestatic 96, 3) := by decide +kernel
theorem dX8_live_11 : decode cX8_live 11 = .ok (.ifCond .ne 7, 3) := by decide +kernel
theorem dX8_live_14 : decode cX8_live 14 = .ok (.ldc2_w 87, 3) := by decide +kernel
theorem dX8_live_17 : decode cX8_live 17 = .ok (.lreturn, 1) := by decide +kernel
theorem dX8_live_18 : decode cX8_live 18 = .ok (.aload_n 0, 1) := by decide +kernel
theorem dX8_live_19 : decode cX8_live 19 = .ok (.getfield 30, 3) := by decide +kernel
theorem dX8_live_22 : decode cX8_live 22 = .ok (.iload_n 1, 1) := by decide +kernel
theorem dX8_live_23 : decode cX8_live 23 = .ok (.iaload, 1) := by decide +kernel
theorem dX8_live_24 : decode cX8_live 24 = .ok (.ifCond .lt 15, 3) := by decide +kernel
theorem dX8_live_27 : decode cX8_live 27 = .ok (.aload_n 0, 1) := by decide +kernel
theorem dX8_live_28 : decode cX8_live 28 = .ok (.iload_n 1, 1) := by decide +kernel
theorem dX8_live_29 : decode cX8_live 29 = .ok (.invokevirtual 177, 3) := by decide +kernel
theorem dX8_live_32 : decode cX8_live 32 = .ok (.ldc2_w 175, 3) := by decide +kernel
theorem dX8_live_35 : decode cX8_live 35 = .ok (.lcmp, 1) := by decide +kernel
theorem dX8_live_36 : decode cX8_live 36 = .ok (.ifCond .eq 7, 3) := by decide +kernel
theorem dX8_live_39 : decode cX8_live 39 = .ok (.ldc2_w 108, 3) := by decide +kernel
theorem dX8_live_42 : decode cX8_live 42 = .ok (.lreturn, 1) := by decide +kernel
theorem dX8_live_43 : decode cX8_live 43 = .ok (.aload_n 0, 1) := by decide +kernel
theorem dX8_live_44 : decode cX8_live 44 = .ok (.getfield 240, 3) := by decide +kernel
theorem dX8_live_47 : decode cX8_live 47 = .ok (.aload_n 0, 1) := by decide +kernel
theorem dX8_live_48 : decode cX8_live 48 = .ok (.getfield 7, 3) := by decide +kernel
theorem dX8_live_51 : decode cX8_live 51 = .ok (.iadd, 1) := by decide +kernel
theorem dX8_live_52 : decode cX8_live 52 = .ok (.sipush 150, 3) := by decide +kernel
theorem dX8_live_55 : decode cX8_live 55 = .ok (.if_icmp .le 7, 3) := by decide +kernel
theorem dX8_live_58 : decode cX8_live 58 = .ok (.ldc2_w 217, 3) := by decide +kernel
theorem dX8_live_61 : decode cX8_live 61 = .ok (.lreturn, 1) := by decide +kernel
theorem dX8_live_62 : decode cX8_live 62 = .ok (.iconst 0, 1) := by decide +kernel
theorem dX8_live_63 : decode cX8_live 63 = .ok (.istore_n 3, 1) := by decide +kernel
theorem dX8_live_64 : decode cX8_live 64 = .ok (.iload_n 3, 1) := by decide +kernel
theorem dX8_live_65 : decode cX8_live 65 = .ok (.aload_n 0, 1) := by decide +kernel
theorem dX8_live_66 : decode cX8_live 66 = .ok (.getfield 7, 3) := by decide +kernel
theorem dX8_live_69 : decode cX8_live 69 = .ok (.if_icmp .ge 117, 3) := by decide +kernel
theorem dX8_live_72 : decode cX8_live 72 = .ok (.aload_n 0, 1) := by decide +kernel
theorem dX8_live_73 : decode cX8_live 73 = .ok (.getfield 57, 3) := by decide +kernel
theorem dX8_live_76 : decode cX8_live 76 = .ok (.bipush 36, 2) := by decide +kernel
theorem dX8_live_78 : decode cX8_live 78 = .ok (.iload_n 1, 1) := by decide +kernel
theorem dX8_live_79 : decode cX8_live 79 = .ok (.imul, 1) := by decide +kernel
theorem dX8_live_80 : decode cX8_live 80 = .ok (.iload_n 3, 1) := by decide +kernel
theorem dX8_live_81 : decode cX8_live 81 = .ok (.iadd, 1) := by decide +kernel
theorem dX8_live_82 : decode cX8_live 82 = .ok (.iaload, 1) := by decide +kernel
theorem dX8_live_83 : decode cX8_live 83 = .ok (.istore 4, 2) := by decide +kernel
theorem dX8_live_85 : decode cX8_live 85 = .ok (.aload_n 0, 1) := by decide +kernel
theorem dX8_live_86 : decode cX8_live 86 = .ok (.getfield 66, 3) := by decide +kernel
theorem dX8_live_89 : decode cX8_live 89 = .ok (.iconst 5, 1) := by decide +kernel
theorem dX8_live_90 : decode cX8_live 90 = .ok (.aload_n 0, 1) := by decide +kernel
theorem dX8_live_91 : decode cX8_live 91 = .ok (.getfield 240, 3) := by decide +kernel
theorem dX8_live_94 : decode cX8_live 94 = .ok (.imul, 1) := by decide +kernel
theorem dX8_live_95 : decode cX8_live 95 = .ok (.iload_n 1, 1) := by decide +kernel
theorem dX8_live_96 : decode cX8_live 96 = .ok (.i2l, 1) := by decide +kernel
theorem dX8_live_97 : decode cX8_live 97 = .ok (.lastore, 1) := by decide +kernel
theorem dX8_live_98 : decode cX8_live 98 = .ok (.aload_n 0, 1) := by decide +kernel
theorem dX8_live_99 : decode cX8_live 99 = .ok (.getfield 66, 3) := by decide +kernel
theorem dX8_live_102 : decode cX8_live 102 = .ok (.iconst 5, 1) := by decide +kernel
theorem dX8_live_103 : decode cX8_live 103 = .ok (.aload_n 0, 1) := by decide +kernel
theorem dX8_live_104 : decode cX8_live 104 = .ok (.getfield 240, 3) := by decide +kernel
theorem dX8_live_107 : decode cX8_live 107 = .ok (.imul, 1) := by decide +kernel
theorem dX8_live_108 : decode cX8_live 108 = .ok (.iconst 1, 1) := by decide +kernel
theorem dX8_live_109 : decode cX8_live 109 = .ok (.iadd, 1) := by decide +kernel
theorem dX8_live_110 : decode cX8_live 110 = .ok (.iload_n 2, 1) := by decide +kernel
theorem dX8_live_111 : decode cX8_live 111 = .ok (.i2l, 1) := by decide +kernel
theorem dX8_live_112 : decode cX8_live 112 = .ok (.lastore, 1) := by decide +kernel
theorem dX8_live_113 : decode cX8_live 113 = .ok (.aload_n 0, 1) := by decide +kernel
theorem dX8_live_114 : decode cX8_live 114 = .ok (.getfield 66, 3) := by decide +kernel
theorem dX8_live_117 : decode cX8_live 117 = .ok (.iconst 5, 1) := by decide +kernel
theorem dX8_live_118 : decode cX8_live 118 = .ok (.aload_n 0, 1) := by decide +kernel
theorem dX8_live_119 : decode cX8_live 119 = .ok (.getfield 240, 3) := by decide +kernel
theorem dX8_live_122 : decode cX8_live 122 = .ok (.imul, 1) := by decide +kernel
theorem dX8_live_123 : decode cX8_live 123 = .ok (.iconst 2, 1) := by decide +kernel
theorem dX8_live_124 : decode cX8_live 124 = .ok (.iadd, 1) := by decide +kernel
theorem dX8_live_125 : decode cX8_live 125 = .ok (.iload_n 3, 1) := by decide +kernel
theorem dX8_live_126 : decode cX8_live 126 = .ok (.i2l, 1) := by decide +kernel
theorem dX8_live_127 : decode cX8_live 127 = .ok (.lastore, 1) := by decide +kernel
theorem dX8_live_128 : decode cX8_live 128 = .ok (.aload_n 0, 1) := by decide +kernel
theorem dX8_live_129 : decode cX8_live 129 = .ok (.getfield 66, 3) := by decide +kernel
theorem dX8_live_132 : decode cX8_live 132 = .ok (.iconst 5, 1) := by decide +kernel
theorem dX8_live_133 : decode cX8_live 133 = .ok (.aload_n 0, 1) := by decide +kernel
theorem dX8_live_134 : decode cX8_live 134 = .ok (.getfield 240, 3) := by decide +kernel
theorem dX8_live_137 : decode cX8_live 137 = .ok (.imul, 1) := by decide +kernel
theorem dX8_live_138 : decode cX8_live 138 = .ok (.iconst 3, 1) := by decide +kernel
theorem dX8_live_139 : decode cX8_live 139 = .ok (.iadd, 1) := by decide +kernel
theorem dX8_live_140 : decode cX8_live 140 = .ok (.iload 4, 2) := by decide +kernel
theorem dX8_live_142 : decode cX8_live 142 = .ok (.i2l, 1) := by decide +kernel
theorem dX8_live_143 : decode cX8_live 143 = .ok (.lastore, 1) := by decide +kernel
theorem dX8_live_144 : decode cX8_live 144 = .ok (.aload_n 0, 1) := by decide +kernel
theorem dX8_live_145 : decode cX8_live 145 = .ok (.getfield 66, 3) := by decide +kernel
theorem dX8_live_148 : decode cX8_live 148 = .ok (.iconst 5, 1) := by decide +kernel
theorem dX8_live_149 : decode cX8_live 149 = .ok (.aload_n 0, 1) := by decide +kernel
theorem dX8_live_150 : decode cX8_live 150 = .ok (.getfield 240, 3) := by decide +kernel
theorem dX8_live_153 : decode cX8_live 153 = .ok (.imul, 1) := by decide +kernel
theorem dX8_live_154 : decode cX8_live 154 = .ok (.iconst 4, 1) := by decide +kernel
theorem dX8_live_155 : decode cX8_live 155 = .ok (.iadd, 1) := by decide +kernel
theorem dX8_live_156 : decode cX8_live 156 = .ok (.aload_n 0, 1) := by decide +kernel
theorem dX8_live_157 : decode cX8_live 157 = .ok (.iload_n 1, 1) := by decide +kernel
theorem dX8_live_158 : decode cX8_live 158 = .ok (.iload 4, 2) := by decide +kernel
theorem dX8_live_160 : decode cX8_live 160 = .ok (.aload_n 0, 1) := by decide +kernel
theorem dX8_live_161 : decode cX8_live 161 = .ok (.iload_n 2, 1) := by decide +kernel
theorem dX8_live_162 : decode cX8_live 162 = .ok (.iload_n 3, 1) := by decide +kernel
theorem dX8_live_163 : decode cX8_live 163 = .ok (.invokevirtual 110, 3) := by decide +kernel
theorem dX8_live_166 : decode cX8_live 166 = .ok (.invokevirtual 180, 3) := by decide +kernel
theorem dX8_live_169 : decode cX8_live 169 = .ok (.lastore, 1) := by decide +kernel
theorem dX8_live_170 : decode cX8_live 170 = .ok (.aload_n 0, 1) := by decide +kernel
theorem dX8_live_171 : decode cX8_live 171 = .ok (.dup, 1) := by decide +kernel
theorem dX8_live_172 : decode cX8_live 172 = .ok (.getfield 240, 3) := by decide +kernel
theorem dX8_live_175 : decode cX8_live 175 = .ok (.iconst 1, 1) := by decide +kernel
theorem dX8_live_176 : decode cX8_live 176 = .ok (.iadd, 1) := by decide +kernel
theorem dX8_live_177 : decode cX8_live 177 = .ok (.putfield 240, 3) := by decide +kernel
theorem dX8_live_180 : decode cX8_live 180 = .ok (.iinc 3 1, 3) := by decide +kernel
theorem dX8_live_183 : decode cX8_live 183 = .ok (.goto (-119), 3) := by decide +kernel
theorem dX8_live_186 : decode cX8_live 186 = .ok (.aload_n 0, 1) := by decide +kernel
theorem dX8_live_187 : decode cX8_live 187 = .ok (.getfield 36, 3) := by decide +kernel
theorem dX8_live_190 : decode cX8_live 190 = .ok (.iload_n 1, 1) := by decide +kernel
theorem dX8_live_191 : decode cX8_live 191 = .ok (.aload_n 0, 1) := by decide +kernel
theorem dX8_live_192 : decode cX8_live 192 = .ok (.iload_n 1, 1) := by decide +kernel
theorem dX8_live_193 : decode cX8_live 193 = .ok (.aload_n 0, 1) := by decide +kernel
theorem dX8_live_194 : decode cX8_live 194 = .ok (.getfield 7, 3) := by decide +kernel
theorem dX8_live_197 : decode cX8_live 197 = .ok (.iconst 1, 1) := by decide +kernel
theorem dX8_live_198 : decode cX8_live 198 = .ok (.isub, 1) := by decide +kernel
theorem dX8_live_199 : decode cX8_live 199 = .ok (.invokevirtual 165, 3) := by decide +kernel
theorem dX8_live_202 : decode cX8_live 202 = .ok (.iastore, 1) := by decide +kernel
theorem dX8_live_203 : decode cX8_live 203 = .ok (.aload_n 0, 1) := by decide +kernel
theorem dX8_live_204 : decode cX8_live 204 = .ok (.getfield 240, 3) := by decide +kernel
theorem dX8_live_207 : decode cX8_live 207 = .ok (.i2l, 1) := by decide +kernel
theorem dX8_live_208 : decode cX8_live 208 = .ok (.lreturn, 1) := by decide +kernel
theorem dX8_row_0 : decode cX8_row 0 = .ok (.iload_n 1, 1) := by decide +kernel
theorem dX8_row_1 : decode cX8_row 1 = .ok (.i2l, 1) := by decide +kernel
theorem dX8_row_2 : decode cX8_row 2 = .ok (.lconst 0, 1) := by decide +kernel
theorem dX8_row_3 : decode cX8_row 3 = .ok (.aload_n 0, 1) := by decide +kernel
theorem dX8_row_4 : decode cX8_row 4 = .ok (.getfield 240, 3) := by decide +kernel
theorem dX8_row_7 : decode cX8_row 7 = .ok (.iconst 1, 1) := by decide +kernel
theorem dX8_row_8 : decode cX8_row 8 = .ok (.isub, 1) := by decide +kernel
theorem dX8_row_9 : decode cX8_row 9 = .ok (.i2l, 1) := by decide +kernel
theorem dX8_row_10 : decode cX8_row 10 = .ok (.invokestatic 81, 3) := by decide +kernel
theorem dX8_row_13 : decode cX8_row 13 = .ok (.ifCond .eq 28, 3) := by decide +kernel
theorem dX8_row_16 : decode cX8_row 16 = .ok (.iload_n 2, 1) := by decide +kernel
theorem dX8_row_17 : decode cX8_row 17 = .ok (.i2l, 1) := by decide +kernel
theorem dX8_row_18 : decode cX8_row 18 = .ok (.lconst 0, 1) := by decide +kernel
theorem dX8_row_19 : decode cX8_row 19 = .ok (.ldc2_w 127, 3) := by decide +kernel
theorem dX8_row_22 : decode cX8_row 22 = .ok (.invokestatic 81, 3) := by decide +kernel
theorem dX8_row_25 : decode cX8_row 25 = .ok (.ifCond .eq 16, 3) := by decide +kernel
theorem dX8_row_28 : decode cX8_row 28 = .ok (.aload_n 0, 1) := by decide +kernel
theorem dX8_row_29 : decode cX8_row 29 = .ok (.getfield 66, 3) := by decide +kernel
theorem dX8_row_32 : decode cX8_row 32 = .ok (.iconst 5, 1) := by decide +kernel
theorem dX8_row_33 : decode cX8_row 33 = .ok (.iload_n 1, 1) := by decide +kernel
theorem dX8_row_34 : decode cX8_row 34 = .ok (.imul, 1) := by decide +kernel
theorem dX8_row_35 : decode cX8_row 35 = .ok (.iload_n 2, 1) := by decide +kernel
theorem dX8_row_36 : decode cX8_row 36 = .ok (.iadd, 1) := by decide +kernel
theorem dX8_row_37 : decode cX8_row 37 = .ok (.laload, 1) := by decide +kernel
theorem dX8_row_38 : decode cX8_row 38 = .ok (.goto 6, 3) := by decide +kernel
theorem dX8_row_41 : decode cX8_row 41 = .ok (.ldc2_w 87, 3) := by decide +kernel
theorem dX8_row_44 : decode cX8_row 44 = .ok (.lreturn, 1) := by decide +kernel
theorem dX8_forge_0 : decode cX8_forge 0 = .ok (.iload_n 1, 1) := by decide +kernel
theorem dX8_forge_1 : decode cX8_forge 1 = .ok (.i2l, 1) := by decide +kernel
theorem dX8_forge_2 : decode cX8_forge 2 = .ok (.lconst 0, 1) := by decide +kernel
theorem dX8_forge_3 : decode cX8_forge 3 = .ok (.aload_n 0, 1) := by decide +kernel
theorem dX8_forge_4 : decode cX8_forge 4 = .ok (.getfield 240, 3) := by decide +kernel
theorem dX8_forge_7 : decode cX8_forge 7 = .ok (.iconst 1, 1) := by decide +kernel
theorem dX8_forge_8 : decode cX8_forge 8 = .ok (.isub, 1) := by decide +kernel
theorem dX8_forge_9 : decode cX8_forge 9 = .ok (.i2l, 1) := by decide +kernel
theorem dX8_forge_10 : decode cX8_forge 10 = .ok (.invokestatic 81, 3) := by decide +kernel
theorem dX8_forge_13 : decode cX8_forge 13 = .ok (.ifCond .eq 36, 3) := by decide +kernel
theorem dX8_forge_16 : decode cX8_forge 16 = .ok (.iload_n 2, 1) := by decide +kernel
theorem dX8_forge_17 : decode cX8_forge 17 = .ok (.i2l, 1) := by decide +kernel
theorem dX8_forge_18 : decode cX8_forge 18 = .ok (.ldc2_w 79, 3) := by decide +kernel
theorem dX8_forge_21 : decode cX8_forge 21 = .ok (.ldc2_w 127, 3) := by decide +kernel
theorem dX8_forge_24 : decode cX8_forge 24 = .ok (.invokestatic 81, 3) := by decide +kernel
theorem dX8_forge_27 : decode cX8_forge 27 = .ok (.ifCond .eq 22, 3) := by decide +kernel
theorem dX8_forge_30 : decode cX8_forge 30 = .ok (.iload_n 2, 1) := by decide +kernel
theorem dX8_forge_31 : decode cX8_forge 31 = .ok (.iconst 3, 1) := by decide +kernel
theorem dX8_forge_32 : decode cX8_forge 32 = .ok (.if_icmp .ne 21, 3) := by decide +kernel
theorem dX8_forge_35 : decode cX8_forge 35 = .ok (.iload_n 3, 1) := by decide +kernel
theorem dX8_forge_36 : decode cX8_forge 36 = .ok (.i2l, 1) := by decide +kernel
theorem dX8_forge_37 : decode cX8_forge 37 = .ok (.ldc2_w 161, 3) := by decide +kernel
theorem dX8_forge_40 : decode cX8_forge 40 = .ok (.ldc2_w 163, 3) := by decide +kernel
theorem dX8_forge_43 : decode cX8_forge 43 = .ok (.invokestatic 81, 3) := by decide +kernel
theorem dX8_forge_46 : decode cX8_forge 46 = .ok (.ifCond .ne 7, 3) := by decide +kernel
theorem dX8_forge_49 : decode cX8_forge 49 = .ok (.ldc2_w 87, 3) := by decide +kernel
theorem dX8_forge_52 : decode cX8_forge 52 = .ok (.lreturn, 1) := by decide +kernel
theorem dX8_forge_53 : decode cX8_forge 53 = .ok (.aload_n 0, 1) := by decide +kernel
theorem dX8_forge_54 : decode cX8_forge 54 = .ok (.getfield 66, 3) := by decide +kernel
theorem dX8_forge_57 : decode cX8_forge 57 = .ok (.iconst 5, 1) := by decide +kernel
theorem dX8_forge_58 : decode cX8_forge 58 = .ok (.iload_n 1, 1) := by decide +kernel
theorem dX8_forge_59 : decode cX8_forge 59 = .ok (.imul, 1) := by decide +kernel
theorem dX8_forge_60 : decode cX8_forge 60 = .ok (.iload_n 2, 1) := by decide +kernel
theorem dX8_forge_61 : decode cX8_forge 61 = .ok (.iadd, 1) := by decide +kernel
theorem dX8_forge_62 : decode cX8_forge 62 = .ok (.laload, 1) := by decide +kernel
theorem dX8_forge_63 : decode cX8_forge 63 = .ok (.lstore 4, 2) := by decide +kernel
theorem dX8_forge_65 : decode cX8_forge 65 = .ok (.aload_n 0, 1) := by decide +kernel
theorem dX8_forge_66 : decode cX8_forge 66 = .ok (.getfield 66, 3) := by decide +kernel
theorem dX8_forge_69 : decode cX8_forge 69 = .ok (.iconst 5, 1) := by decide +kernel
theorem dX8_forge_70 : decode cX8_forge 70 = .ok (.iload_n 1, 1) := by decide +kernel
theorem dX8_forge_71 : decode cX8_forge 71 = .ok (.imul, 1) := by decide +kernel
theorem dX8_forge_72 : decode cX8_forge 72 = .ok (.iload_n 2, 1) := by decide +kernel
theorem dX8_forge_73 : decode cX8_forge 73 = .ok (.iadd, 1) := by decide +kernel
theorem dX8_forge_74 : decode cX8_forge 74 = .ok (.iload_n 3, 1) := by decide +kernel
theorem dX8_forge_75 : decode cX8_forge 75 = .ok (.i2l, 1) := by decide +kernel
theorem dX8_forge_76 : decode cX8_forge 76 = .ok (.lastore, 1) := by decide +kernel
theorem dX8_forge_77 : decode cX8_forge 77 = .ok (.lload 4, 2) := by decide +kernel
theorem dX8_forge_79 : decode cX8_forge 79 = .ok (.lreturn, 1) := by decide +kernel
theorem dX8_ahead_0 : decode cX8_ahead 0 = .ok (.aload_n 0, 1) := by decide +kernel
theorem dX8_ahead_1 : decode cX8_ahead 1 = .ok (.getfield 66, 3) := by decide +kernel
theorem dX8_ahead_4 : decode cX8_ahead 4 = .ok (.iconst 5, 1) := by decide +kernel
theorem dX8_ahead_5 : decode cX8_ahead 5 = .ok (.iload_n 1, 1) := by decide +kernel
theorem dX8_ahead_6 : decode cX8_ahead 6 = .ok (.imul, 1) := by decide +kernel
theorem dX8_ahead_7 : decode cX8_ahead 7 = .ok (.laload, 1) := by decide +kernel
theorem dX8_ahead_8 : decode cX8_ahead 8 = .ok (.l2i, 1) := by decide +kernel
theorem dX8_ahead_9 : decode cX8_ahead 9 = .ok (.istore_n 2, 1) := by decide +kernel
theorem dX8_ahead_10 : decode cX8_ahead 10 = .ok (.aload_n 0, 1) := by decide +kernel
theorem dX8_ahead_11 : decode cX8_ahead 11 = .ok (.getfield 36, 3) := by decide +kernel
theorem dX8_ahead_14 : decode cX8_ahead 14 = .ok (.iload_n 2, 1) := by decide +kernel
theorem dX8_ahead_15 : decode cX8_ahead 15 = .ok (.iaload, 1) := by decide +kernel
theorem dX8_ahead_16 : decode cX8_ahead 16 = .ok (.i2l, 1) := by decide +kernel
theorem dX8_ahead_17 : decode cX8_ahead 17 = .ok (.lstore_n 3, 1) := by decide +kernel
theorem dX8_ahead_18 : decode cX8_ahead 18 = .ok (.iload_n 1, 1) := by decide +kernel
theorem dX8_ahead_19 : decode cX8_ahead 19 = .ok (.istore 5, 2) := by decide +kernel
theorem dX8_ahead_21 : decode cX8_ahead 21 = .ok (.iload 5, 2) := by decide +kernel
theorem dX8_ahead_23 : decode cX8_ahead 23 = .ok (.aload_n 0, 1) := by decide +kernel
theorem dX8_ahead_24 : decode cX8_ahead 24 = .ok (.getfield 240, 3) := by decide +kernel
theorem dX8_ahead_27 : decode cX8_ahead 27 = .ok (.if_icmp .ge 42, 3) := by decide +kernel
theorem dX8_ahead_30 : decode cX8_ahead 30 = .ok (.lload_n 3, 1) := by decide +kernel
theorem dX8_ahead_31 : decode cX8_ahead 31 = .ok (.aload_n 0, 1) := by decide +kernel
theorem dX8_ahead_32 : decode cX8_ahead 32 = .ok (.getfield 66, 3) := by decide +kernel
theorem dX8_ahead_35 : decode cX8_ahead 35 = .ok (.iconst 5, 1) := by decide +kernel
theorem dX8_ahead_36 : decode cX8_ahead 36 = .ok (.iload 5, 2) := by decide +kernel
theorem dX8_ahead_38 : decode cX8_ahead 38 = .ok (.imul, 1) := by decide +kernel
theorem dX8_ahead_39 : decode cX8_ahead 39 = .ok (.laload, 1) := by decide +kernel
theorem dX8_ahead_40 : decode cX8_ahead 40 = .ok (.iload_n 2, 1) := by decide +kernel
theorem dX8_ahead_41 : decode cX8_ahead 41 = .ok (.i2l, 1) := by decide +kernel
theorem dX8_ahead_42 : decode cX8_ahead 42 = .ok (.lcmp, 1) := by decide +kernel
theorem dX8_ahead_43 : decode cX8_ahead 43 = .ok (.ifCond .ne 17, 3) := by decide +kernel
theorem dX8_ahead_46 : decode cX8_ahead 46 = .ok (.aload_n 0, 1) := by decide +kernel
theorem dX8_ahead_47 : decode cX8_ahead 47 = .ok (.getfield 66, 3) := by decide +kernel
theorem dX8_ahead_50 : decode cX8_ahead 50 = .ok (.iconst 5, 1) := by decide +kernel
theorem dX8_ahead_51 : decode cX8_ahead 51 = .ok (.iload 5, 2) := by decide +kernel
theorem dX8_ahead_53 : decode cX8_ahead 53 = .ok (.imul, 1) := by decide +kernel
theorem dX8_ahead_54 : decode cX8_ahead 54 = .ok (.iconst 3, 1) := by decide +kernel
theorem dX8_ahead_55 : decode cX8_ahead 55 = .ok (.iadd, 1) := by decide +kernel
theorem dX8_ahead_56 : decode cX8_ahead 56 = .ok (.laload, 1) := by decide +kernel
theorem dX8_ahead_57 : decode cX8_ahead 57 = .ok (.goto 4, 3) := by decide +kernel
theorem dX8_ahead_60 : decode cX8_ahead 60 = .ok (.lconst 0, 1) := by decide +kernel
theorem dX8_ahead_61 : decode cX8_ahead 61 = .ok (.lsub, 1) := by decide +kernel
theorem dX8_ahead_62 : decode cX8_ahead 62 = .ok (.lstore_n 3, 1) := by decide +kernel
theorem dX8_ahead_63 : decode cX8_ahead 63 = .ok (.iinc 5 1, 3) := by decide +kernel
theorem dX8_ahead_66 : decode cX8_ahead 66 = .ok (.goto (-45), 3) := by decide +kernel
theorem dX8_ahead_69 : decode cX8_ahead 69 = .ok (.lload_n 3, 1) := by decide +kernel
theorem dX8_ahead_70 : decode cX8_ahead 70 = .ok (.lreturn, 1) := by decide +kernel
theorem dX8_check_0 : decode cX8_check 0 = .ok (.iconst 0, 1) := by decide +kernel
theorem dX8_check_1 : decode cX8_check 1 = .ok (.istore_n 1, 1) := by decide +kernel
theorem dX8_check_2 : decode cX8_check 2 = .ok (.iload_n 1, 1) := by decide +kernel
theorem dX8_check_3 : decode cX8_check 3 = .ok (.aload_n 0, 1) := by decide +kernel
theorem dX8_check_4 : decode cX8_check 4 = .ok (.getfield 240, 3) := by decide +kernel
theorem dX8_check_7 : decode cX8_check 7 = .ok (.if_icmp .ge 108, 3) := by decide +kernel
theorem dX8_check_10 : decode cX8_check 10 = .ok (.aload_n 0, 1) := by decide +kernel
theorem dX8_check_11 : decode cX8_check 11 = .ok (.getfield 66, 3) := by decide +kernel
theorem dX8_check_14 : decode cX8_check 14 = .ok (.iconst 5, 1) := by decide +kernel
theorem dX8_check_15 : decode cX8_check 15 = .ok (.iload_n 1, 1) := by decide +kernel
theorem dX8_check_16 : decode cX8_check 16 = .ok (.imul, 1) := by decide +kernel
theorem dX8_check_17 : decode cX8_check 17 = .ok (.laload, 1) := by decide +kernel
theorem dX8_check_18 : decode cX8_check 18 = .ok (.l2i, 1) := by decide +kernel
theorem dX8_check_19 : decode cX8_check 19 = .ok (.istore_n 2, 1) := by decide +kernel
theorem dX8_check_20 : decode cX8_check 20 = .ok (.aload_n 0, 1) := by decide +kernel
theorem dX8_check_21 : decode cX8_check 21 = .ok (.getfield 30, 3) := by decide +kernel
theorem dX8_check_24 : decode cX8_check 24 = .ok (.iload_n 2, 1) := by decide +kernel
theorem dX8_check_25 : decode cX8_check 25 = .ok (.iaload, 1) := by decide +kernel
theorem dX8_check_26 : decode cX8_check 26 = .ok (.ifCond .lt 83, 3) := by decide +kernel
theorem dX8_check_29 : decode cX8_check 29 = .ok (.aload_n 0, 1) := by decide +kernel
theorem dX8_check_30 : decode cX8_check 30 = .ok (.iload_n 2, 1) := by decide +kernel
theorem dX8_check_31 : decode cX8_check 31 = .ok (.aload_n 0, 1) := by decide +kernel
theorem dX8_check_32 : decode cX8_check 32 = .ok (.getfield 66, 3) := by decide +kernel
theorem dX8_check_35 : decode cX8_check 35 = .ok (.iconst 5, 1) := by decide +kernel
theorem dX8_check_36 : decode cX8_check 36 = .ok (.iload_n 1, 1) := by decide +kernel
theorem dX8_check_37 : decode cX8_check 37 = .ok (.imul, 1) := by decide +kernel
theorem dX8_check_38 : decode cX8_check 38 = .ok (.iconst 3, 1) := by decide +kernel
theorem dX8_check_39 : decode cX8_check 39 = .ok (.iadd, 1) := by decide +kernel
theorem dX8_check_40 : decode cX8_check 40 = .ok (.laload, 1) := by decide +kernel
theorem dX8_check_41 : decode cX8_check 41 = .ok (.l2i, 1) := by decide +kernel
theorem dX8_check_42 : decode cX8_check 42 = .ok (.aload_n 0, 1) := by decide +kernel
theorem dX8_check_43 : decode cX8_check 43 = .ok (.aload_n 0, 1) := by decide +kernel
theorem dX8_check_44 : decode cX8_check 44 = .ok (.getfield 66, 3) := by decide +kernel
theorem dX8_check_47 : decode cX8_check 47 = .ok (.iconst 5, 1) := by decide +kernel
theorem dX8_check_48 : decode cX8_check 48 = .ok (.iload_n 1, 1) := by decide +kernel
theorem dX8_check_49 : decode cX8_check 49 = .ok (.imul, 1) := by decide +kernel
theorem dX8_check_50 : decode cX8_check 50 = .ok (.iconst 1, 1) := by decide +kernel
theorem dX8_check_51 : decode cX8_check 51 = .ok (.iadd, 1) := by decide +kernel
theorem dX8_check_52 : decode cX8_check 52 = .ok (.laload, 1) := by decide +kernel
theorem dX8_check_53 : decode cX8_check 53 = .ok (.l2i, 1) := by decide +kernel
theorem dX8_check_54 : decode cX8_check 54 = .ok (.aload_n 0, 1) := by decide +kernel
theorem dX8_check_55 : decode cX8_check 55 = .ok (.getfield 66, 3) := by decide +kernel
theorem dX8_check_58 : decode cX8_check 58 = .ok (.iconst 5, 1) := by decide +kernel
theorem dX8_check_59 : decode cX8_check 59 = .ok (.iload_n 1, 1) := by decide +kernel
theorem dX8_check_60 : decode cX8_check 60 = .ok (.imul, 1) := by decide +kernel
theorem dX8_check_61 : decode cX8_check 61 = .ok (.iconst 2, 1) := by decide +kernel
theorem dX8_check_62 : decode cX8_check 62 = .ok (.iadd, 1) := by decide +kernel
theorem dX8_check_63 : decode cX8_check 63 = .ok (.laload, 1) := by decide +kernel
theorem dX8_check_64 : decode cX8_check 64 = .ok (.l2i, 1) := by decide +kernel
theorem dX8_check_65 : decode cX8_check 65 = .ok (.invokevirtual 110, 3) := by decide +kernel
theorem dX8_check_68 : decode cX8_check 68 = .ok (.invokevirtual 180, 3) := by decide +kernel
theorem dX8_check_71 : decode cX8_check 71 = .ok (.lstore_n 3, 1) := by decide +kernel
theorem dX8_check_72 : decode cX8_check 72 = .ok (.aload_n 0, 1) := by decide +kernel
theorem dX8_check_73 : decode cX8_check 73 = .ok (.getfield 66, 3) := by decide +kernel
theorem dX8_check_76 : decode cX8_check 76 = .ok (.iconst 5, 1) := by decide +kernel
theorem dX8_check_77 : decode cX8_check 77 = .ok (.iload_n 1, 1) := by decide +kernel
theorem dX8_check_78 : decode cX8_check 78 = .ok (.imul, 1) := by decide +kernel
theorem dX8_check_79 : decode cX8_check 79 = .ok (.iconst 4, 1) := by decide +kernel
theorem dX8_check_80 : decode cX8_check 80 = .ok (.iadd, 1) := by decide +kernel
theorem dX8_check_81 : decode cX8_check 81 = .ok (.laload, 1) := by decide +kernel
theorem dX8_check_82 : decode cX8_check 82 = .ok (.lload_n 3, 1) := by decide +kernel
theorem dX8_check_83 : decode cX8_check 83 = .ok (.lcmp, 1) := by decide +kernel
theorem dX8_check_84 : decode cX8_check 84 = .ok (.ifCond .ne 22, 3) := by decide +kernel
theorem dX8_check_87 : decode cX8_check 87 = .ok (.aload_n 0, 1) := by decide +kernel
theorem dX8_check_88 : decode cX8_check 88 = .ok (.iload_n 1, 1) := by decide +kernel
theorem dX8_check_89 : decode cX8_check 89 = .ok (.invokevirtual 243, 3) := by decide +kernel
theorem dX8_check_92 : decode cX8_check 92 = .ok (.lconst 0, 1) := by decide +kernel
theorem dX8_check_93 : decode cX8_check 93 = .ok (.aload_n 0, 1) := by decide +kernel
theorem dX8_check_94 : decode cX8_check 94 = .ok (.getfield 33, 3) := by decide +kernel
theorem dX8_check_97 : decode cX8_check 97 = .ok (.iload_n 2, 1) := by decide +kernel
theorem dX8_check_98 : decode cX8_check 98 = .ok (.iaload, 1) := by decide +kernel
theorem dX8_check_99 : decode cX8_check 99 = .ok (.i2l, 1) := by decide +kernel
theorem dX8_check_100 : decode cX8_check 100 = .ok (.invokestatic 81, 3) := by decide +kernel
theorem dX8_check_103 : decode cX8_check 103 = .ok (.ifCond .ne 6, 3) := by decide +kernel
theorem dX8_check_106 : decode cX8_check 106 = .ok (.iload_n 1, 1) := by decide +kernel
theorem dX8_check_107 : decode cX8_check 107 = .ok (.i2l, 1) := by decide +kernel
theorem dX8_check_108 : decode cX8_check 108 = .ok (.lreturn, 1) := by decide +kernel
theorem dX8_check_109 : decode cX8_check 109 = .ok (.iinc 1 1, 3) := by decide +kernel
theorem dX8_check_112 : decode cX8_check 112 = .ok (.goto (-110), 3) := by decide +kernel
theorem dX8_check_115 : decode cX8_check 115 = .ok (.ldc2_w 175, 3) := by decide +kernel
theorem dX8_check_118 : decode cX8_check 118 = .ok (.lreturn, 1) := by decide +kernel
theorem dX8_shut_0 : decode cX8_shut 0 = .ok (.aload_n 0, 1) := by decide +kernel
theorem dX8_shut_1 : decode cX8_shut 1 = .ok (.getfield 240, 3) := by decide +kernel
theorem dX8_shut_4 : decode cX8_shut 4 = .ok (.i2l, 1) := by decide +kernel
theorem dX8_shut_5 : decode cX8_shut 5 = .ok (.lstore_n 1, 1) := by decide +kernel
theorem dX8_shut_6 : decode cX8_shut 6 = .ok (.aload_n 0, 1) := by decide +kernel
theorem dX8_shut_7 : decode cX8_shut 7 = .ok (.iconst 0, 1) := by decide +kernel
theorem dX8_shut_8 : decode cX8_shut 8 = .ok (.putfield 240, 3) := by decide +kernel
theorem dX8_shut_11 : decode cX8_shut 11 = .ok (.lload_n 1, 1) := by decide +kernel
theorem dX8_shut_12 : decode cX8_shut 12 = .ok (.lreturn, 1) := by decide +kernel
theorem dX8_warrant_0 : decode cX8_warrant 0 = .ok (.iload_n 1, 1) := by decide +kernel
theorem dX8_warrant_1 : decode cX8_warrant 1 = .ok (.invokestatic 124, 3) := by decide +kernel
theorem dX8_warrant_4 : decode cX8_warrant 4 = .ok (.ifCond .eq 15, 3) := by decide +kernel
theorem dX8_warrant_7 : decode cX8_warrant 7 = .ok (.iload_n 2, 1) := by decide +kernel
theorem dX8_warrant_8 : decode cX8_warrant 8 = .ok (.i2l, 1) := by decide +kernel
theorem dX8_warrant_9 : decode cX8_warrant 9 = .ok (.lconst 0, 1) := by decide +kernel
theorem dX8_warrant_10 : decode cX8_warrant 10 = .ok (.ldc2_w 246, 3) := by decide +kernel
theorem dX8_warrant_13 : decode cX8_warrant 13 = .ok (.invokestatic 81, 3) := by decide +kernel
theorem dX8_warrant_16 : decode cX8_warrant 16 = .ok (.ifCond .ne 7, 3) := by decide +kernel
theorem dX8_warrant_19 : decode cX8_warrant 19 = .ok (.ldc2_w 87, 3) := by decide +kernel
theorem dX8_warrant_22 : decode cX8_warrant 22 = .ok (.lreturn, 1) := by decide +kernel
theorem dX8_warrant_23 : decode cX8_warrant 23 = .ok (.aload_n 0, 1) := by decide +kernel
theorem dX8_warrant_24 : decode cX8_warrant 24 = .ok (.getfield 30, 3) := by decide +kernel
theorem dX8_warrant_27 : decode cX8_warrant 27 = .ok (.iload_n 1, 1) := by decide +kernel
theorem dX8_warrant_28 : decode cX8_warrant 28 = .ok (.iaload, 1) := by decide +kernel
theorem dX8_warrant_29 : decode cX8_warrant 29 = .ok (.ifCond .ge 7, 3) := by decide +kernel
theorem dX8_warrant_32 : decode cX8_warrant 32 = .ok (.ldc2_w 108, 3) := by decide +kernel
theorem dX8_warrant_35 : decode cX8_warrant 35 = .ok (.lreturn, 1) := by decide +kernel
theorem dX8_warrant_36 : decode cX8_warrant 36 = .ok (.aload_n 0, 1) := by decide +kernel
theorem dX8_warrant_37 : decode cX8_warrant 37 = .ok (.getfield 54, 3) := by decide +kernel
theorem dX8_warrant_40 : decode cX8_warrant 40 = .ok (.iload_n 1, 1) := by decide +kernel
theorem dX8_warrant_41 : decode cX8_warrant 41 = .ok (.iaload, 1) := by decide +kernel
theorem dX8_warrant_42 : decode cX8_warrant 42 = .ok (.i2l, 1) := by decide +kernel
theorem dX8_warrant_43 : decode cX8_warrant 43 = .ok (.lstore_n 3, 1) := by decide +kernel
theorem dX8_warrant_44 : decode cX8_warrant 44 = .ok (.aload_n 0, 1) := by decide +kernel
theorem dX8_warrant_45 : decode cX8_warrant 45 = .ok (.getfield 54, 3) := by decide +kernel
theorem dX8_warrant_48 : decode cX8_warrant 48 = .ok (.iload_n 1, 1) := by decide +kernel
theorem dX8_warrant_49 : decode cX8_warrant 49 = .ok (.iload_n 2, 1) := by decide +kernel
theorem dX8_warrant_50 : decode cX8_warrant 50 = .ok (.iastore, 1) := by decide +kernel
theorem dX8_warrant_51 : decode cX8_warrant 51 = .ok (.lload_n 3, 1) := by decide +kernel
theorem dX8_warrant_52 : decode cX8_warrant 52 = .ok (.lreturn, 1) := by decide +kernel
theorem dX8_voided_0 : decode cX8_voided 0 = .ok (.aload_n 0, 1) := by decide +kernel
theorem dX8_voided_1 : decode cX8_voided 1 = .ok (.iload_n 1, 1) := by decide +kernel
theorem dX8_voided_2 : decode cX8_voided 2 = .ok (.invokevirtual 142, 3) := by decide +kernel
theorem dX8_voided_5 : decode cX8_voided 5 = .ok (.lstore_n 2, 1) := by decide +kernel
theorem dX8_voided_6 : decode cX8_voided 6 = .ok (.lload_n 2, 1) := by decide +kernel
theorem dX8_voided_7 : decode cX8_voided 7 = .ok (.lconst 0, 1) := by decide +kernel
theorem dX8_voided_8 : decode cX8_voided 8 = .ok (.lcmp, 1) := by decide +kernel
theorem dX8_voided_9 : decode cX8_voided 9 = .ok (.ifCond .eq 5, 3) := by decide +kernel
theorem dX8_voided_12 : decode cX8_voided 12 = .ok (.lload_n 2, 1) := by decide +kernel
theorem dX8_voided_13 : decode cX8_voided 13 = .ok (.lreturn, 1) := by decide +kernel
theorem dX8_voided_14 : decode cX8_voided 14 = .ok (.lconst 0, 1) := by decide +kernel
theorem dX8_voided_15 : decode cX8_voided 15 = .ok (.lstore 4, 2) := by decide +kernel
theorem dX8_voided_17 : decode cX8_voided 17 = .ok (.iconst 0, 1) := by decide +kernel
theorem dX8_voided_18 : decode cX8_voided 18 = .ok (.istore 6, 2) := by decide +kernel
theorem dX8_voided_20 : decode cX8_voided 20 = .ok (.iload 6, 2) := by decide +kernel
theorem dX8_voided_22 : decode cX8_voided 22 = .ok (.aload_n 0, 1) := by decide +kernel
theorem dX8_voided_23 : decode cX8_voided 23 = .ok (.getfield 240, 3) := by decide +kernel
theorem dX8_voided_26 : decode cX8_voided 26 = .ok (.if_icmp .ge 78, 3) := by decide +kernel
theorem dX8_voided_29 : decode cX8_voided 29 = .ok (.aload_n 0, 1) := by decide +kernel
theorem dX8_voided_30 : decode cX8_voided 30 = .ok (.getfield 66, 3) := by decide +kernel
theorem dX8_voided_33 : decode cX8_voided 33 = .ok (.iconst 5, 1) := by decide +kernel
theorem dX8_voided_34 : decode cX8_voided 34 = .ok (.iload 6, 2) := by decide +kernel
theorem dX8_voided_36 : decode cX8_voided 36 = .ok (.imul, 1) := by decide +kernel
theorem dX8_voided_37 : decode cX8_voided 37 = .ok (.iconst 3, 1) := by decide +kernel
theorem dX8_voided_38 : decode cX8_voided 38 = .ok (.iadd, 1) := by decide +kernel
theorem dX8_voided_39 : decode cX8_voided 39 = .ok (.laload, 1) := by decide +kernel
theorem dX8_voided_40 : decode cX8_voided 40 = .ok (.lstore 7, 2) := by decide +kernel
theorem dX8_voided_42 : decode cX8_voided 42 = .ok (.lload 4, 2) := by decide +kernel
theorem dX8_voided_44 : decode cX8_voided 44 = .ok (.aload_n 0, 1) := by decide +kernel
theorem dX8_voided_45 : decode cX8_voided 45 = .ok (.getfield 66, 3) := by decide +kernel
theorem dX8_voided_48 : decode cX8_voided 48 = .ok (.iconst 5, 1) := by decide +kernel
theorem dX8_voided_49 : decode cX8_voided 49 = .ok (.iload 6, 2) := by decide +kernel
theorem dX8_voided_51 : decode cX8_voided 51 = .ok (.imul, 1) := by decide +kernel
theorem dX8_voided_52 : decode cX8_voided 52 = .ok (.laload, 1) := by decide +kernel
theorem dX8_voided_53 : decode cX8_voided 53 = .ok (.iload_n 1, 1) := by decide +kernel
theorem dX8_voided_54 : decode cX8_voided 54 = .ok (.i2l, 1) := by decide +kernel
theorem dX8_voided_55 : decode cX8_voided 55 = .ok (.lcmp, 1) := by decide +kernel
theorem dX8_voided_56 : decode cX8_voided 56 = .ok (.ifCond .eq 7, 3) := by decide +kernel
theorem dX8_voided_59 : decode cX8_voided 59 = .ok (.lconst 0, 1) := by decide +kernel
theorem dX8_voided_60 : decode cX8_voided 60 = .ok (.goto 18, 3) := by decide +kernel
theorem dX8_voided_63 : decode cX8_voided 63 = .ok (.lload 7, 2) := by decide +kernel
theorem dX8_voided_65 : decode cX8_voided 65 = .ok (.lconst 0, 1) := by decide +kernel
theorem dX8_voided_66 : decode cX8_voided 66 = .ok (.lcmp, 1) := by decide +kernel
theorem dX8_voided_67 : decode cX8_voided 67 = .ok (.ifCond .ge 9, 3) := by decide +kernel
theorem dX8_voided_70 : decode cX8_voided 70 = .ok (.lload 7, 2) := by decide +kernel
theorem dX8_voided_72 : decode cX8_voided 72 = .ok (.lneg, 1) := by decide +kernel
theorem dX8_voided_73 : decode cX8_voided 73 = .ok (.goto 5, 3) := by decide +kernel
theorem dX8_voided_76 : decode cX8_voided 76 = .ok (.lload 7, 2) := by decide +kernel
theorem dX8_voided_78 : decode cX8_voided 78 = .ok (.ladd, 1) := by decide +kernel
theorem dX8_voided_79 : decode cX8_voided 79 = .ok (.lstore 4, 2) := by decide +kernel
theorem dX8_voided_81 : decode cX8_voided 81 = .ok (.lload 4, 2) := by decide +kernel
theorem dX8_voided_83 : decode cX8_voided 83 = .ok (.aload_n 0, 1) := by decide +kernel
theorem dX8_voided_84 : decode cX8_voided 84 = .ok (.getfield 54, 3) := by decide +kernel
theorem dX8_voided_87 : decode cX8_voided 87 = .ok (.iload_n 1, 1) := by decide +kernel
theorem dX8_voided_88 : decode cX8_voided 88 = .ok (.iaload, 1) := by decide +kernel
theorem dX8_voided_89 : decode cX8_voided 89 = .ok (.i2l, 1) := by decide +kernel
theorem dX8_voided_90 : decode cX8_voided 90 = .ok (.lcmp, 1) := by decide +kernel
theorem dX8_voided_91 : decode cX8_voided 91 = .ok (.ifCond .le 7, 3) := by decide +kernel
theorem dX8_voided_94 : decode cX8_voided 94 = .ok (.iload 6, 2) := by decide +kernel
theorem dX8_voided_96 : decode cX8_voided 96 = .ok (.i2l, 1) := by decide +kernel
theorem dX8_voided_97 : decode cX8_voided 97 = .ok (.lreturn, 1) := by decide +kernel
theorem dX8_voided_98 : decode cX8_voided 98 = .ok (.iinc 6 1, 3) := by decide +kernel
theorem dX8_voided_101 : decode cX8_voided 101 = .ok (.goto (-81), 3) := by decide +kernel
theorem dX8_voided_104 : decode cX8_voided 104 = .ok (.ldc2_w 175, 3) := by decide +kernel
theorem dX8_voided_107 : decode cX8_voided 107 = .ok (.lreturn, 1) := by decide +kernel
theorem dX8_count_0 : decode cX8_count 0 = .ok (.lconst 0, 1) := by decide +kernel
theorem dX8_count_1 : decode cX8_count 1 = .ok (.lstore_n 2, 1) := by decide +kernel
theorem dX8_count_2 : decode cX8_count 2 = .ok (.iload_n 1, 1) := by decide +kernel
theorem dX8_count_3 : decode cX8_count 3 = .ok (.tableswitch 244 0 7 #[45, 80, 86, 92, 98, 133, 172, 210], 45) := by decide +kernel
theorem dX8_count_48 : decode cX8_count 48 = .ok (.iconst 0, 1) := by decide +kernel
theorem dX8_count_49 : decode cX8_count 49 = .ok (.istore 4, 2) := by decide +kernel
theorem dX8_count_51 : decode cX8_count 51 = .ok (.iload 4, 2) := by decide +kernel
theorem dX8_count_53 : decode cX8_count 53 = .ok (.iconst 4, 1) := by decide +kernel
theorem dX8_count_54 : decode cX8_count 54 = .ok (.if_icmp .ge 27, 3) := by decide +kernel
theorem dX8_count_57 : decode cX8_count 57 = .ok (.lload_n 2, 1) := by decide +kernel
theorem dX8_count_58 : decode cX8_count 58 = .ok (.aload_n 0, 1) := by decide +kernel
theorem dX8_count_59 : decode cX8_count 59 = .ok (.getfield 30, 3) := by decide +kernel
theorem dX8_count_62 : decode cX8_count 62 = .ok (.iload 4, 2) := by decide +kernel
theorem dX8_count_64 : decode cX8_count 64 = .ok (.iaload, 1) := by decide +kernel
theorem dX8_count_65 : decode cX8_count 65 = .ok (.ifCond .lt 7, 3) := by decide +kernel
theorem dX8_count_68 : decode cX8_count 68 = .ok (.lconst 1, 1) := by decide +kernel
theorem dX8_count_69 : decode cX8_count 69 = .ok (.goto 4, 3) := by decide +kernel
theorem dX8_count_72 : decode cX8_count 72 = .ok (.lconst 0, 1) := by decide +kernel
theorem dX8_count_73 : decode cX8_count 73 = .ok (.ladd, 1) := by decide +kernel
theorem dX8_count_74 : decode cX8_count 74 = .ok (.lstore_n 2, 1) := by decide +kernel
theorem dX8_count_75 : decode cX8_count 75 = .ok (.iinc 4 1, 3) := by decide +kernel
theorem dX8_count_78 : decode cX8_count 78 = .ok (.goto (-27), 3) := by decide +kernel
theorem dX8_count_81 : decode cX8_count 81 = .ok (.lload_n 2, 1) := by decide +kernel
theorem dX8_count_82 : decode cX8_count 82 = .ok (.lreturn, 1) := by decide +kernel
theorem dX8_count_83 : decode cX8_count 83 = .ok (.aload_n 0, 1) := by decide +kernel
theorem dX8_count_84 : decode cX8_count 84 = .ok (.getfield 7, 3) := by decide +kernel
theorem dX8_count_87 : decode cX8_count 87 = .ok (.i2l, 1) := by decide +kernel
theorem dX8_count_88 : decode cX8_count 88 = .ok (.lreturn, 1) := by decide +kernel
theorem dX8_count_89 : decode cX8_count 89 = .ok (.aload_n 0, 1) := by decide +kernel
theorem dX8_count_90 : decode cX8_count 90 = .ok (.getfield 89, 3) := by decide +kernel
theorem dX8_count_93 : decode cX8_count 93 = .ok (.i2l, 1) := by decide +kernel
theorem dX8_count_94 : decode cX8_count 94 = .ok (.lreturn, 1) := by decide +kernel
theorem dX8_count_95 : decode cX8_count 95 = .ok (.aload_n 0, 1) := by decide +kernel
theorem dX8_count_96 : decode cX8_count 96 = .ok (.getfield 240, 3) := by decide +kernel
theorem dX8_count_99 : decode cX8_count 99 = .ok (.i2l, 1) := by decide +kernel
theorem dX8_count_100 : decode cX8_count 100 = .ok (.lreturn, 1) := by decide +kernel
theorem dX8_count_101 : decode cX8_count 101 = .ok (.iconst 0, 1) := by decide +kernel
theorem dX8_count_102 : decode cX8_count 102 = .ok (.istore 4, 2) := by decide +kernel
theorem dX8_count_104 : decode cX8_count 104 = .ok (.iload 4, 2) := by decide +kernel
theorem dX8_count_106 : decode cX8_count 106 = .ok (.iconst 4, 1) := by decide +kernel
theorem dX8_count_107 : decode cX8_count 107 = .ok (.if_icmp .ge 27, 3) := by decide +kernel
theorem dX8_count_110 : decode cX8_count 110 = .ok (.lload_n 2, 1) := by decide +kernel
theorem dX8_count_111 : decode cX8_count 111 = .ok (.aload_n 0, 1) := by decide +kernel
theorem dX8_count_112 : decode cX8_count 112 = .ok (.getfield 21, 3) := by decide +kernel
theorem dX8_count_115 : decode cX8_count 115 = .ok (.iload 4, 2) := by decide +kernel
theorem dX8_count_117 : decode cX8_count 117 = .ok (.iaload, 1) := by decide +kernel
theorem dX8_count_118 : decode cX8_count 118 = .ok (.ifCond .lt 7, 3) := by decide +kernel
theorem dX8_count_121 : decode cX8_count 121 = .ok (.lconst 1, 1) := by decide +kernel
theorem dX8_count_122 : decode cX8_count 122 = .ok (.goto 4, 3) := by decide +kernel
theorem dX8_count_125 : decode cX8_count 125 = .ok (.lconst 0, 1) := by decide +kernel
theorem dX8_count_126 : decode cX8_count 126 = .ok (.ladd, 1) := by decide +kernel
theorem dX8_count_127 : decode cX8_count 127 = .ok (.lstore_n 2, 1) := by decide +kernel
theorem dX8_count_128 : decode cX8_count 128 = .ok (.iinc 4 1, 3) := by decide +kernel
theorem dX8_count_131 : decode cX8_count 131 = .ok (.goto (-27), 3) := by decide +kernel
theorem dX8_count_134 : decode cX8_count 134 = .ok (.lload_n 2, 1) := by decide +kernel
theorem dX8_count_135 : decode cX8_count 135 = .ok (.lreturn, 1) := by decide +kernel
theorem dX8_count_136 : decode cX8_count 136 = .ok (.iconst 0, 1) := by decide +kernel
theorem dX8_count_137 : decode cX8_count 137 = .ok (.istore 4, 2) := by decide +kernel
theorem dX8_count_139 : decode cX8_count 139 = .ok (.iload 4, 2) := by decide +kernel
theorem dX8_count_141 : decode cX8_count 141 = .ok (.bipush 36, 2) := by decide +kernel
theorem dX8_count_143 : decode cX8_count 143 = .ok (.if_icmp .ge 30, 3) := by decide +kernel
theorem dX8_count_146 : decode cX8_count 146 = .ok (.lload_n 2, 1) := by decide +kernel
theorem dX8_count_147 : decode cX8_count 147 = .ok (.aload_n 0, 1) := by decide +kernel
theorem dX8_count_148 : decode cX8_count 148 = .ok (.getfield 63, 3) := by decide +kernel
theorem dX8_count_151 : decode cX8_count 151 = .ok (.iload 4, 2) := by decide +kernel
theorem dX8_count_153 : decode cX8_count 153 = .ok (.iaload, 1) := by decide +kernel
theorem dX8_count_154 : decode cX8_count 154 = .ok (.sipush (-1001), 3) := by decide +kernel
theorem dX8_count_157 : decode cX8_count 157 = .ok (.if_icmp .eq 7, 3) := by decide +kernel
theorem dX8_count_160 : decode cX8_count 160 = .ok (.lconst 1, 1) := by decide +kernel
theorem dX8_count_161 : decode cX8_count 161 = .ok (.goto 4, 3) := by decide +kernel
theorem dX8_count_164 : decode cX8_count 164 = .ok (.lconst 0, 1) := by decide +kernel
theorem dX8_count_165 : decode cX8_count 165 = .ok (.ladd, 1) := by decide +kernel
theorem dX8_count_166 : decode cX8_count 166 = .ok (.lstore_n 2, 1) := by decide +kernel
theorem dX8_count_167 : decode cX8_count 167 = .ok (.iinc 4 1, 3) := by decide +kernel
theorem dX8_count_170 : decode cX8_count 170 = .ok (.goto (-31), 3) := by decide +kernel
theorem dX8_count_173 : decode cX8_count 173 = .ok (.lload_n 2, 1) := by decide +kernel
theorem dX8_count_174 : decode cX8_count 174 = .ok (.lreturn, 1) := by decide +kernel
theorem dX8_count_175 : decode cX8_count 175 = .ok (.iconst 0, 1) := by decide +kernel
theorem dX8_count_176 : decode cX8_count 176 = .ok (.istore 4, 2) := by decide +kernel
theorem dX8_count_178 : decode cX8_count 178 = .ok (.iload 4, 2) := by decide +kernel
theorem dX8_count_180 : decode cX8_count 180 = .ok (.aload_n 0, 1) := by decide +kernel
theorem dX8_count_181 : decode cX8_count 181 = .ok (.getfield 7, 3) := by decide +kernel
theorem dX8_count_184 : decode cX8_count 184 = .ok (.if_icmp .ge 27, 3) := by decide +kernel
theorem dX8_count_187 : decode cX8_count 187 = .ok (.lload_n 2, 1) := by decide +kernel
theorem dX8_count_188 : decode cX8_count 188 = .ok (.aload_n 0, 1) := by decide +kernel
theorem dX8_count_189 : decode cX8_count 189 = .ok (.getfield 13, 3) := by decide +kernel
theorem dX8_count_192 : decode cX8_count 192 = .ok (.iload 4, 2) := by decide +kernel
theorem dX8_count_194 : decode cX8_count 194 = .ok (.baload, 1) := by decide +kernel
theorem dX8_count_195 : decode cX8_count 195 = .ok (.ifCond .eq 7, 3) := by decide +kernel
theorem dX8_count_198 : decode cX8_count 198 = .ok (.lconst 1, 1) := by decide +kernel
theorem dX8_count_199 : decode cX8_count 199 = .ok (.goto 4, 3) := by decide +kernel
theorem dX8_count_202 : decode cX8_count 202 = .ok (.lconst 0, 1) := by decide +kernel
theorem dX8_count_203 : decode cX8_count 203 = .ok (.ladd, 1) := by decide +kernel
theorem dX8_count_204 : decode cX8_count 204 = .ok (.lstore_n 2, 1) := by decide +kernel
theorem dX8_count_205 : decode cX8_count 205 = .ok (.iinc 4 1, 3) := by decide +kernel
theorem dX8_count_208 : decode cX8_count 208 = .ok (.goto (-30), 3) := by decide +kernel
theorem dX8_count_211 : decode cX8_count 211 = .ok (.lload_n 2, 1) := by decide +kernel
theorem dX8_count_212 : decode cX8_count 212 = .ok (.lreturn, 1) := by decide +kernel
theorem dX8_count_213 : decode cX8_count 213 = .ok (.iconst 0, 1) := by decide +kernel
theorem dX8_count_214 : decode cX8_count 214 = .ok (.istore 4, 2) := by decide +kernel
theorem dX8_count_216 : decode cX8_count 216 = .ok (.iload 4, 2) := by decide +kernel
theorem dX8_count_218 : decode cX8_count 218 = .ok (.aload_n 0, 1) := by decide +kernel
theorem dX8_count_219 : decode cX8_count 219 = .ok (.getfield 240, 3) := by decide +kernel
theorem dX8_count_222 : decode cX8_count 222 = .ok (.if_icmp .ge 23, 3) := by decide +kernel
theorem dX8_count_225 : decode cX8_count 225 = .ok (.lload_n 2, 1) := by decide +kernel
theorem dX8_count_226 : decode cX8_count 226 = .ok (.aload_n 0, 1) := by decide +kernel
theorem dX8_count_227 : decode cX8_count 227 = .ok (.getfield 66, 3) := by decide +kernel
theorem dX8_count_230 : decode cX8_count 230 = .ok (.iconst 5, 1) := by decide +kernel
theorem dX8_count_231 : decode cX8_count 231 = .ok (.iload 4, 2) := by decide +kernel
theorem dX8_count_233 : decode cX8_count 233 = .ok (.imul, 1) := by decide +kernel
theorem dX8_count_234 : decode cX8_count 234 = .ok (.iconst 4, 1) := by decide +kernel
theorem dX8_count_235 : decode cX8_count 235 = .ok (.iadd, 1) := by decide +kernel
theorem dX8_count_236 : decode cX8_count 236 = .ok (.laload, 1) := by decide +kernel
theorem dX8_count_237 : decode cX8_count 237 = .ok (.ladd, 1) := by decide +kernel
theorem dX8_count_238 : decode cX8_count 238 = .ok (.lstore_n 2, 1) := by decide +kernel
theorem dX8_count_239 : decode cX8_count 239 = .ok (.iinc 4 1, 3) := by decide +kernel
theorem dX8_count_242 : decode cX8_count 242 = .ok (.goto (-26), 3) := by decide +kernel
theorem dX8_count_245 : decode cX8_count 245 = .ok (.lload_n 2, 1) := by decide +kernel
theorem dX8_count_246 : decode cX8_count 246 = .ok (.lreturn, 1) := by decide +kernel
theorem dX8_count_247 : decode cX8_count 247 = .ok (.ldc2_w 87, 3) := by decide +kernel
theorem dX8_count_250 : decode cX8_count 250 = .ok (.lreturn, 1) := by decide +kernel
end
section
/-! ints and longs as whole numbers -/
def iI (z : Int) : Int32 := Int32.ofInt z
def lI (z : Int) : Int64 := Int64.ofInt z
abbrev R32 (z : Int) : Prop := -2147483648 ≤ z ∧ z ≤ 2147483647
abbrev R64 (z : Int) : Prop := -9223372036854775808 ≤ z ∧ z ≤ 9223372036854775807
theorem iI_toInt {z : Int} (h : R32 z) : (iI z).toInt = z := Int32.toInt_ofInt_of_le (by have := h.1; omega) (by have := h.2; omega)
theorem lI_toInt {z : Int} (h : R64 z) : (lI z).toInt = z := Int64.toInt_ofInt_of_le (by have := h.1; omega) (by have := h.2; omega)
theorem iI_of (x : Int32) : iI x.toInt = x := Int32.ofInt_toInt x
theorem lI_of (x : Int64) : lI x.toInt = x := Int64.ofInt_toInt x
theorem R32_of (x : Int32) : R32 x.toInt := ⟨by have := Int32.le_toInt x; omega, by have := Int32.toInt_lt x; omega⟩
theorem R64_of (x : Int64) : R64 x.toInt := ⟨by have := Int64.le_toInt x; omega, by have := Int64.toInt_lt x; omega⟩
theorem iI_add (a b : Int) : iI a + iI b = iI (a + b) := (Int32.ofInt_add a b).symm
theorem iI_sub (a b : Int) : iI a - iI b = iI (a - b) := (Int32.ofInt_sub a b).symm
theorem iI_mul (a b : Int) : iI a * iI b = iI (a * b) := (Int32.ofInt_mul a b).symm
theorem iI_neg (a : Int) : - iI a = iI (-a) := (Int32.ofInt_neg a).symm
theorem lI_add (a b : Int) : lI a + lI b = lI (a + b) := (Int64.ofInt_add a b).symm
theorem lI_sub (a b : Int) : lI a - lI b = lI (a - b) := (Int64.ofInt_sub a b).symm
theorem lI_mul (a b : Int) : lI a * lI b = lI (a * b) := (Int64.ofInt_mul a b).symm
theorem lI_neg (a : Int) : - lI a = lI (-a) := (Int64.ofInt_neg a).symm
theorem iI_lt {a b : Int} (ha : R32 a) (hb : R32 b) : iI a < iI b ↔ a < b := by rw [Int32.lt_iff_toInt_lt, iI_toInt ha, iI_toInt hb]
theorem iI_le {a b : Int} (ha : R32 a) (hb : R32 b) : iI a ≤ iI b ↔ a ≤ b := by rw [Int32.le_iff_toInt_le, iI_toInt ha, iI_toInt hb]
theorem iI_eq {a b : Int} (ha : R32 a) (hb : R32 b) : iI a = iI b ↔ a = b := by rw [← Int32.toInt_inj, iI_toInt ha, iI_toInt hb]
theorem lI_lt {a b : Int} (ha : R64 a) (hb : R64 b) : lI a < lI b ↔ a < b := by rw [Int64.lt_iff_toInt_lt, lI_toInt ha, lI_toInt hb]
theorem lI_le {a b : Int} (ha : R64 a) (hb : R64 b) : lI a ≤ lI b ↔ a ≤ b := by rw [Int64.le_iff_toInt_le, lI_toInt ha, lI_toInt hb]
theorem lI_eq {a b : Int} (ha : R64 a) (hb : R64 b) : lI a = lI b ↔ a = b := by rw [← Int64.toInt_inj, lI_toInt ha, lI_toInt hb]
theorem iI_0 : iI 0 = 0 := by decide +kernel
theorem lI_0 : lI 0 = 0 := by decide +kernel
theorem r0 : R32 0 := ⟨by omega, by omega⟩
theorem iI_div {a b : Int} (ha : R32 a) (hb : R32 b) : iI a / iI b = iI (a.tdiv b) := (Int32.ofInt_tdiv ha.1 ha.2 hb.1 hb.2).symm
theorem iI_rem {a b : Int} (ha : R32 a) (hb : R32 b) : iI a - iI a / iI b * iI b = iI (a.tmod b) := by
  rw [iI_div ha hb, iI_mul, iI_sub, Int.tmod_def, Int.mul_comm b]
theorem iI_l {z : Int} (h : R32 z) : (iI z).toInt64 = lI z := Int64.toInt_inj.mp (by rw [Int32.toInt_toInt64, iI_toInt h, lI_toInt ⟨by omega, by omega⟩])
theorem lI_i (z : Int) : (lI z).toInt32 = iI z := Int64.toInt32_ofInt
theorem iI_clamp {z : Int} (h0 : 0 ≤ z) (h : R32 z) : (iI z).toNatClampNeg = z.toNat := by
  unfold Int32.toNatClampNeg; rw [iI_toInt h]
theorem iI_in {z : Int} {n : Nat} (h0 : 0 ≤ z) (h1 : z < n) (hn : n < 2147483648) : vp_in (iI z) n := by
  have hr : R32 z := ⟨by omega, by omega⟩
  unfold vp_in
  rw [iI_clamp h0 hr, ← iI_0, iI_lt hr r0]
  omega
theorem iI_nat (n : Nat) : Int32.ofNat n = iI n := Int32.ofInt_eq_ofNat.symm
theorem tdiv_pos {a b : Int} (h : 0 ≤ a) : a.tdiv b = a / b := Int.tdiv_eq_ediv_of_nonneg h
theorem tmod_pos {a b : Int} (h : 0 ≤ a) : a.tmod b = a % b := Int.tmod_eq_emod_of_nonneg h
/-- the answer of a test -/
def bI (c : Prop) [Decidable c] : Int := if c then 1 else 0
theorem bI_t {c : Prop} [Decidable c] (h : c) : bI c = 1 := if_pos h
theorem bI_f {c : Prop} [Decidable c] (h : ¬ c) : bI c = 0 := if_neg h
theorem bI_1 {c : Prop} [Decidable c] : bI c = 1 ↔ c := by unfold bI; split <;> simp [*]
theorem bI_0 {c : Prop} [Decidable c] : bI c = 0 ↔ ¬ c := by unfold bI; split <;> simp [*]
theorem bI_in {c : Prop} [Decidable c] : 0 ≤ bI c ∧ bI c ≤ 1 := by unfold bI; split <;> omega
theorem bI_iff {c d : Prop} [Decidable c] [Decidable d] (h : c ↔ d) : bI c = bI d := by unfold bI; simp [h]
/-- and, shifts: as the machine has them -/
def band (a b : Int) : Int := (iI a &&& iI b).toInt
def bshr (a b : Int) : Int := (iI a >>> (iI b &&& 31)).toInt
def bxor (a b : Int) : Int := (iI a ^^^ iI b).toInt
def bushr (a b : Int) : Int := ((iI a).toUInt32 >>> ((iI b).toUInt32 &&& Int32.toUInt32 31)).toInt32.toInt
theorem band_r (a b : Int) : R32 (band a b) := R32_of _
theorem bshr_r (a b : Int) : R32 (bshr a b) := R32_of _
theorem bxor_r (a b : Int) : R32 (bxor a b) := R32_of _
theorem bushr_r (a b : Int) : R32 (bushr a b) := R32_of _
end
section
/-! the world: every cell of class and reference has a sort and a number; what it holds is a function of whole numbers -/
abbrev AV : Type := Int ⊕ Int ⊕ (Nat × Int)
abbrev Mm : Type := Nat → Int → Int → Int
/-- addresses by sort and number (sort 99: the static row of limits), numbers of classes and slots, classes of arrays (0 int, 1 long, 2 boolean, 3 Battery, 4 Prices) -/
abbrev XW : Type := (Nat → Int → Nat) × va_G × (Nat → ClassId)
def tv (X : XW) : AV → Value
  | .inl z => .int (iI z)
  | .inr (.inl z) => .long (lI z)
  | .inr (.inr p) => .ref (X.1 p.1 p.2)
def cA : AV → Nat
  | .inr (.inl _) => 2
  | _ => 1
theorem tv_cat (X : XW) (v : AV) : (tv X v).category = cA v := by
  rcases v with z | z | p <;> rfl
def u1 (g : Int → Int) (z v : Int) : Int → Int := fun y => if y = z then v else g y
def up (σ : Mm) (a : Nat) (i z v : Int) : Mm := fun b j y => if b = a ∧ j = i ∧ y = z then v else σ b j y
theorem up_same (σ : Mm) (a : Nat) (i z v : Int) : up σ a i z v a i = u1 (σ a i) z v := by
  funext y; simp [up, u1]
theorem up_other (σ : Mm) {a b : Nat} {i j : Int} (z v : Int) (h : ¬ (b = a ∧ j = i)) : up σ a i z v b j = σ b j := by
  funext y
  unfold up
  rw [if_neg (fun q => h ⟨q.1, q.2.1⟩)]
def cntN : Nat → Nat
  | 6 => 4
  | 7 => 4
  | 8 => 4
  | 9 => 4
  | a => if a < 50 then 1 else 0
def Vd (a : Nat) (i : Int) : Prop := 0 ≤ i ∧ i < (cntN a : Int)
def PL : List (Nat × Int) := (List.range 50).flatMap (fun a => (List.range (cntN a)).map (fun (i : Nat) => (a, (i : Int))))
theorem PL_nd : PL.Nodup := by decide +kernel
theorem cntN_big {a : Nat} (h : 50 ≤ a) : cntN a = 0 := by
  unfold cntN
  split
  · omega
  · omega
  · omega
  · omega
  · rw [if_neg (by omega)]
theorem PL_mem {a : Nat} {i : Int} : (a, i) ∈ PL ↔ Vd a i := by
  unfold PL Vd
  simp only [List.mem_flatMap, List.mem_map, List.mem_range, Prod.mk.injEq]
  constructor
  · rintro ⟨b, hb, j, hj, rfl, rfl⟩
    omega
  · rintro ⟨h0, h1⟩
    refine ⟨a, ?_, i.toNat, by omega, rfl, by omega⟩
    rcases Nat.lt_or_ge a 50 with h | h
    · exact h
    · rw [cntN_big h] at h1
      omega
/-- what stands at a place, by what its whole numbers are -/
def aI (X : XW) (n : Nat) (g : Int → Int) : va_E := .inl (X.2.2 0, n, .inl (fun j : Nat => iI (g j)))
def aJ (X : XW) (n : Nat) (g : Int → Int) : va_E := .inl (X.2.2 1, n, .inr (.inl (fun j : Nat => lI (g j))))
def aZ (X : XW) (n : Nat) (g : Int → Int) : va_E := .inl (X.2.2 2, n, .inl (fun j : Nat => iI (g j)))
def aQ (X : XW) (t : Nat) (b : Nat) : va_E := .inl (X.2.2 t, 4, .inr (.inr (.inr (.inr (fun j : Nat => some (X.1 b j))))))
def encF (X : XW) (a : Nat) (i : Int) (g : Int → Int) : va_E := match a with
  | 0 => .inr (7, [.ref (X.1 1 0), .ref (X.1 4 0), .ref (X.1 5 0), .ref (X.1 10 0), .ref (X.1 15 0), .ref (X.1 20 0), .ref (X.1 22 0)])
  | 1 => .inr (3, [.int (iI (g 0)), .ref (X.1 2 0), .ref (X.1 3 0)])
  | 2 => aZ X 36 g
  | 3 => aI X 36 g
  | 4 => aQ X 4 6
  | 5 => aQ X 3 8
  | 6 => .inr (6, [.int (iI (g 0)), .int (iI (g 1)), .int (iI (g 2)), .ref (X.1 7 i)])
  | 7 => aI X 36 g
  | 8 => .inr (0, [.int (iI (g 0)), .int (iI (g 1)), .int (iI (g 2)), .int (iI (g 3)), .int (iI (g 4)), .int (iI (g 5)), .int (iI (g 6)), .int (iI (g 7)), .int (iI (g 8)), .int (iI (g 9)), .int (iI (g 10)), .int (iI (g 11)), .ref (X.1 9 i)])
  | 9 => aI X 36 g
  | 10 => .inr (5, [.ref (X.1 1 0), .ref (X.1 4 0), .ref (X.1 11 0), .ref (X.1 12 0), .ref (X.1 13 0), .ref (X.1 14 0), .int (iI (g 6)), .int (iI (g 7)), .int (iI (g 8)), .int (iI (g 9))])
  | 11 => aJ X 2257 g
  | 12 => aJ X 81 g
  | 13 => aJ X 61 g
  | 14 => aJ X 61 g
  | 15 => .inr (1, [.int (iI (g 0)), .ref (X.1 16 0), .ref (X.1 17 0), .ref (X.1 18 0), .ref (X.1 19 0)])
  | 16 => aI X 12 g
  | 17 => aI X 12 g
  | 18 => aI X 12 g
  | 19 => aI X 12 g
  | 20 => .inr (4, [.ref (X.1 21 0)])
  | 21 => aI X 36 g
  | 22 => .inr (2, [.int (iI (g 0)), .ref (X.1 23 0), .ref (X.1 24 0), .ref (X.1 25 0), .ref (X.1 26 0), .ref (X.1 27 0)])
  | 23 => aI X 150 g
  | 24 => aI X 150 g
  | 25 => aI X 150 g
  | 26 => aI X 150 g
  | 27 => aJ X 150 g
  | 28 => .inr (8, [.int (iI (g 0)), .ref (X.1 29 0), .ref (X.1 30 0), .ref (X.1 31 0), .ref (X.1 32 0), .ref (X.1 33 0), .ref (X.1 34 0), .ref (X.1 35 0), .ref (X.1 36 0), .ref (X.1 37 0), .ref (X.1 38 0), .ref (X.1 39 0), .ref (X.1 40 0), .ref (X.1 41 0), .ref (X.1 42 0), .ref (X.1 43 0), .ref (X.1 44 0), .int (iI (g 17)), .ref (X.1 45 0), .ref (X.1 46 0), .int (iI (g 20)), .ref (X.1 47 0), .ref (X.1 48 0), .ref (X.1 49 0)])
  | 29 => aZ X 36 g
  | 30 => aI X 36 g
  | 31 => aI X 4 g
  | 32 => aI X 4 g
  | 33 => aI X 144 g
  | 34 => aI X 4 g
  | 35 => aI X 4 g
  | 36 => aI X 4 g
  | 37 => aI X 4 g
  | 38 => aI X 4 g
  | 39 => aI X 4 g
  | 40 => aI X 4 g
  | 41 => aI X 4 g
  | 42 => aI X 4 g
  | 43 => aI X 144 g
  | 44 => aI X 48 g
  | 45 => aI X 36 g
  | 46 => aJ X 750 g
  | 47 => aI X 36 g
  | 48 => aJ X 2257 g
  | _ => aJ X 2257 g
/-- 0 int, 1 long, 2 boolean -/
def tyk : Nat → Int → Nat
  | 11, _ => 1
  | 12, _ => 1
  | 13, _ => 1
  | 14, _ => 1
  | 27, _ => 1
  | 46, _ => 1
  | 48, _ => 1
  | 49, _ => 1
  | 2, _ => 2
  | 29, _ => 2
  | 6, z => if z = 0 then 2 else 0
  | 8, z => if z = 0 then 2 else 0
  | _, _ => 0
def inT : Nat → Int → Prop
  | 0, v => R32 v
  | 1, v => R64 v
  | _, v => 0 ≤ v ∧ v ≤ 1
def Rg (σ : Mm) : Prop := ∀ (a : Nat) (i z : Int), inT (tyk a z) (σ a i z)
theorem Rg_up {σ : Mm} (h : Rg σ) {a : Nat} {i z v : Int} (hv : inT (tyk a z) v) : Rg (up σ a i z v) := by
  intro b j y
  unfold up
  split
  · rename_i q
    obtain ⟨rfl, rfl, rfl⟩ := q
    exact hv
  · exact h b j y
def Apl (X : XW) : Nat → Prop := fun q => ∃ (a : Nat) (i : Int), Vd a i ∧ q = X.1 a i
def Inj (X : XW) : Prop := ∀ (a b : Nat) (i j : Int), Vd a i → Vd b j → X.1 a i = X.1 b j → a = b ∧ i = j
def Mem (X : XW) (σ : Mm) (H : Heap) : Prop := ∀ (a : Nat) (i : Int), Vd a i → va_at X.2.1 vwCl (X.1 a i, encF X a i (σ a i)) H
def wl (X : XW) (σ : Mm) : va_W := PL.map (fun p => (X.1 p.1 p.2, encF X p.1 p.2 (σ p.1 p.2)))
theorem wl_at {X : XW} {σ : Mm} {k : Nat} {q : Nat × va_E} (h : (wl X σ)[k]? = some q) : ∃ (a : Nat) (i : Int), PL[k]? = some (a, i) ∧ Vd a i ∧ q = (X.1 a i, encF X a i (σ a i)) := by
  unfold wl at h
  rw [List.getElem?_map] at h
  cases hp : PL[k]? with
  | none => rw [hp] at h; cases h
  | some p =>
    rw [hp] at h
    exact ⟨p.1, p.2, rfl, PL_mem.mp (List.mem_of_getElem? hp), (Option.some.inj h).symm⟩
theorem wl_get {X : XW} {σ : Mm} {a : Nat} {i : Int} (h : Vd a i) : ∃ k : Nat, PL[k]? = some (a, i) ∧ (wl X σ)[k]? = some (X.1 a i, encF X a i (σ a i)) := by
  obtain ⟨k, hk⟩ := List.getElem?_of_mem (PL_mem.mpr h)
  exact ⟨k, hk, by unfold wl; rw [List.getElem?_map, hk]; rfl⟩
theorem Mem.P {X : XW} {σ : Mm} {H : Heap} (h : Mem X σ H) : va_P X.2.1 vwCl (wl X σ) H := by
  intro k q hk
  obtain ⟨a, i, -, hv, rfl⟩ := wl_at hk
  exact h a i hv
theorem Inj.D {X : XW} {σ : Mm} (h : Inj X) : va_D (Apl X) (wl X σ) := by
  refine ⟨fun i j p q hp hq e => ?_, fun k q hk => ?_⟩
  · obtain ⟨a, x, h1, h2, rfl⟩ := wl_at hp
    obtain ⟨b, y, h3, h4, rfl⟩ := wl_at hq
    obtain ⟨rfl, rfl⟩ := h a b x y h2 h4 e
    exact (List.getElem?_inj (List.getElem?_eq_some_iff.mp h1).1 PL_nd).mp (h1.trans h3.symm)
  · obtain ⟨a, x, -, h2, rfl⟩ := wl_at hk
    exact ⟨a, x, h2, rfl⟩
/-- one cell of it, alone -/
theorem Mem.one {X : XW} {σ : Mm} {H : Heap} (h : Mem X σ H) {a : Nat} {i : Int} (hv : Vd a i) : va_P X.2.1 vwCl [(X.1 a i, encF X a i (σ a i))] H := by
  intro k q hk
  cases k with
  | zero => cases hk; exact h a i hv
  | succ k => simp at hk
/-- behind a write into a place -/
theorem Mem.put {X : XW} {σ : Mm} {H1 : Heap} {k a : Nat} {i : Int} {g : Int → Int} {e : va_E} (hk : PL[k]? = some (a, i)) (he : e = encF X a i g) (h : va_P X.2.1 vwCl ((wl X σ).set k (X.1 a i, e)) H1) {σ' : Mm} (h1 : σ' a i = g) (h2 : ∀ (b : Nat) (j : Int), ¬ (b = a ∧ j = i) → σ' b j = σ b j) : Mem X σ' H1 := by
  have hl : k < (wl X σ).length := by
    obtain ⟨l1, -⟩ := List.getElem?_eq_some_iff.mp hk
    unfold wl
    rw [List.length_map]
    exact l1
  intro b j hv
  by_cases hb : b = a ∧ j = i
  · obtain ⟨rfl, rfl⟩ := hb
    have := h k (X.1 b j, e) (List.getElem?_set_self hl)
    rw [he] at this
    rw [h1]
    exact this
  · obtain ⟨k2, p1, p2⟩ := wl_get (X := X) (σ := σ) hv
    have hne : k2 ≠ k := by
      intro q
      subst q
      cases hk.symm.trans p1
      exact hb ⟨rfl, rfl⟩
    rw [h2 b j hb]
    exact h k2 _ (by rw [List.getElem?_set_ne (Ne.symm hne)]; exact p2)
/-- locals: the last store stands first -/
def nf (X : XW) : List (Nat × AV) → List (Nat × Value)
  | [] => []
  | (i, v) :: r => match v with
    | .inr (.inl z) => (i, .long (lI z)) :: (nf X r).filter (fun q => !(q.1 == i) && (!(q.1 == i + 1) && !(q.1 + 1 == i && q.2.category == 2)))
    | .inl z => (i, .int (iI z)) :: (nf X r).filter (fun q => !(q.1 == i) && !(q.1 + 1 == i && q.2.category == 2))
    | .inr (.inr p) => (i, .ref (X.1 p.1 p.2)) :: (nf X r).filter (fun q => !(q.1 == i) && !(q.1 + 1 == i && q.2.category == 2))
def lk : List (Nat × AV) → Nat → Option AV
  | [], _ => none
  | (i, v) :: r, j => bif Nat.beq j i then some v else bif (Nat.beq (cA v) 2 && Nat.beq j (i + 1)) then none else match lk r j with
    | none => none
    | some w => bif (Nat.beq (cA w) 2 && Nat.beq (j + 1) i) then none else some w
theorem beq_t {a b : Nat} : Nat.beq a b = true ↔ a = b := by rw [Nat.beq_eq]
theorem lk_mem {X : XW} : ∀ {ls : List (Nat × AV)} {j : Nat} {v : AV}, lk ls j = some v → (j, tv X v) ∈ nf X ls
  | [], j, v, h => by cases h
  | (i, w) :: r, j, v, h => by
    unfold lk at h
    cases h1 : Nat.beq j i with
    | true =>
      rw [h1] at h
      have e := beq_t.mp h1
      subst e
      cases h
      rcases w with z | z | p <;> exact List.mem_cons_self
    | false =>
      rw [h1] at h
      have e : j ≠ i := fun q => by rw [beq_t.mpr q] at h1; cases h1
      simp only [cond_false] at h
      cases h2 : (Nat.beq (cA w) 2 && Nat.beq j (i + 1)) with
      | true => rw [h2] at h; cases h
      | false =>
        rw [h2] at h
        simp only [cond_false] at h
        cases h3 : lk r j with
        | none => rw [h3] at h; cases h
        | some y =>
          rw [h3] at h
          simp only at h
          cases h4 : (Nat.beq (cA y) 2 && Nat.beq (j + 1) i) with
          | true => rw [h4] at h; cases h
          | false =>
            rw [h4] at h
            cases h
            have ih := lk_mem (X := X) h3
            have c1 : ¬ (cA v = 2 ∧ j + 1 = i) := by
              rintro ⟨q1, q2⟩
              rw [beq_t.mpr q1, beq_t.mpr q2] at h4
              cases h4
            have c2 : ¬ (cA w = 2 ∧ j = i + 1) := by
              rintro ⟨q1, q2⟩
              rw [beq_t.mpr q1, beq_t.mpr q2] at h2
              cases h2
            have k1 : (!(j == i) && !(j + 1 == i && (tv X v).category == 2)) = true := by
              rw [tv_cat]
              by_cases q : j + 1 = i
              · have : ¬ cA v = 2 := fun z => c1 ⟨z, q⟩
                simp [e, this]
              · simp [e, q]
            have k2 : cA w = 2 → (!(j == i) && (!(j == i + 1) && !(j + 1 == i && (tv X v).category == 2))) = true := by
              intro hw
              have : ¬ j = i + 1 := fun z => c2 ⟨hw, z⟩
              simp only [Bool.and_eq_true] at k1 ⊢
              exact ⟨k1.1, by simp [this], k1.2⟩
            rcases w with z | z | p
            · exact List.mem_cons_of_mem _ (List.mem_filter.mpr ⟨ih, k1⟩)
            · exact List.mem_cons_of_mem _ (List.mem_filter.mpr ⟨ih, k2 rfl⟩)
            · exact List.mem_cons_of_mem _ (List.mem_filter.mpr ⟨ih, k1⟩)
theorem nf_mem {X : XW} : ∀ {ls : List (Nat × AV)} {q : Nat × Value}, q ∈ nf X ls → ∃ v, (q.1, v) ∈ ls ∧ q.2 = tv X v
  | [], q, h => by cases h
  | (i, w) :: r, q, h => by
    rcases w with z | z | p
    · rcases List.mem_cons.mp h with rfl | h
      · exact ⟨.inl z, List.mem_cons_self, rfl⟩
      · obtain ⟨v, h1, h2⟩ := nf_mem (List.mem_filter.mp h).1
        exact ⟨v, List.mem_cons_of_mem _ h1, h2⟩
    · rcases List.mem_cons.mp h with rfl | h
      · exact ⟨.inr (.inl z), List.mem_cons_self, rfl⟩
      · obtain ⟨v, h1, h2⟩ := nf_mem (List.mem_filter.mp h).1
        exact ⟨v, List.mem_cons_of_mem _ h1, h2⟩
    · rcases List.mem_cons.mp h with rfl | h
      · exact ⟨.inr (.inr p), List.mem_cons_self, rfl⟩
      · obtain ⟨v, h1, h2⟩ := nf_mem (List.mem_filter.mp h).1
        exact ⟨v, List.mem_cons_of_mem _ h1, h2⟩
/-- every entry of the second list is found in the first -/
def Lin (ls : List (Nat × AV)) : List (Nat × AV) → Prop
  | [] => True
  | x :: r => lk ls x.1 = some x.2 ∧ Lin ls r
theorem Lin.get {ls : List (Nat × AV)} : ∀ {l2 : List (Nat × AV)}, Lin ls l2 → ∀ x ∈ l2, lk ls x.1 = some x.2
  | [], _, x, h => by cases h
  | y :: r, hl, x, h => by
    rcases List.mem_cons.mp h with rfl | h
    · exact hl.1
    · exact hl.2.get x h
theorem Lin.has {X : XW} {la : Array Slot} {nL : Nat} {ls l2 : List (Nat × AV)} (h : Lin ls l2) (hl : lv_has la nL (nf X ls)) : lv_has la nL (nf X l2) := by
  refine ⟨hl.1, hl.2.1, fun q hq => ?_⟩
  obtain ⟨v, h1, h2⟩ := nf_mem hq
  have := hl.2.2 _ (lk_mem (X := X) (h.get _ h1))
  rw [h2]
  exact this
end
section
/-! the walk's judgement over the world; a row an instruction -/
abbrev MX : Type := Program × Launch × Env × Room × State × MethodId × Array Value × List Frame × Method × Code × (State → Prop)
def limF : Nat → Value := fun k => match k with
  | 0 => .int 100
  | 1 => .int 1000
  | _ => .int 10000
def tyA (X : XW) : List (ClassId × FieldType) := [(X.2.2 0, .int), (X.2.2 1, .long), (X.2.2 2, .boolean), (X.2.2 3, .object RX0), (X.2.2 4, .object RX6)]
def nestW : List Cond := [.methodLinkNest RX6 35 yX7_within RX7, .methodLinkNest RX5 144 yX7_hasWorld RX7, .methodLinkNest RX1 34 yX7_within RX7, .methodLinkNest RX2 52 yX7_within RX7]
def nestF : Cond := .fieldLinkNest RX6 32 RX7 "PRICE_LIMITS" "[I" RX7
/-- what stays as it is: classes, arrays' classes, the static row, the nest's links -/
def Kn (X : XW) (U : State) : Prop := va_K X.2.1 vwCl (tyA X) U ∧ Inj X ∧ va_Z RX7 "PRICE_LIMITS" "[I" (.ref (X.1 99 0)) (Apl X) U U.heap ∧ va_T .int (X.1 99 0) 3 limF (Apl X) U U.heap ∧ (∀ w ∈ nestW, va_Nw w U) ∧ va_Nw nestF U
theorem Kn.moved {X : XW} {s U : State} {H : Heap} {locs : List Loc} (h : Kn X s) (hW : s.WarmedH U.vm) (hU : U.heap = H) (hS : va_S (Apl X) s.heap H locs) : Kn X U := by
  obtain ⟨h1, h2, h3, h4, h5, h6⟩ := h
  refine ⟨va_K.moved hW.alike h1, h2, ?_, ?_, ?_, va_Nw.warmF hW h6⟩
  · rw [hU]
    exact (h3.moved hW.alike).kept hS.2.1
  · rw [hU]
    exact (h4.moved hW.alike).kept hS.2.1
  · intro w hw
    have hz := h5 w hw
    simp only [nestW, List.mem_cons, List.not_mem_nil, or_false] at hw
    rcases hw with rfl | rfl | rfl | rfl <;> exact va_Nw.warmM hW hz
def G (X : XW) (M : MX) (cc : ByteArray) (nL : Nat) (σ : Mm) (pc : Nat) (ls : List (Nat × AV)) (st : List AV) : Prop := match M with
  | (p, l, e, R, s, m, args, below, meth, c, Q) => ∀ (H : Heap) (locs : List Loc) (la : Array Slot), Mem X σ H → Rg σ → va_S (Apl X) s.heap H locs → lv_has la nL (nf X ls) → W p l e R s m args below meth c H locs 0 0 Q (F0 m pc la (st.map (tv X)))
def MOk (X : XW) (M : MX) (cc : ByteArray) (nL fr lo : Nat) (own : String) : Prop := match M with
  | (p, _, _, R, s, m, args, _, _, c, _) => p.tables.exec = Jvm.exec ∧ c.code = cc ∧ c.maxLocals = nL ∧ s.vm.findClass own = some m.cls ∧ (∀ w ∈ Wds, w.before args s = true) ∧ Kn X s ∧ R.frames = fr ∧ R.locals = lo
/-- a method's end: an answer and a memory of which 'post' holds -/
def Qo (X : XW) (post : Option AV → Mm → Prop) : Array Value → State → Outcome → State → Prop := fun _ st oc t => ∃ (r : Option AV) (σ : Mm), oc = .returned (r.map (tv X)) ∧ post r σ ∧ Mem X σ t.heap ∧ Rg σ ∧ va_F (Apl X) st t
def RQ (X : XW) (M : MX) (post : Option AV → Mm → Prop) (ret : Option FieldType) : Prop := match M with
  | (_, _, _, _, s, _, args, below, meth, _, Q) => Q = MQ below (Qo X post) args s 0 0 (Apl X) ∧ meth.sig.returnType = ret ∧ meth.locks = false
def Wo (X : XW) (σ : Mm) (U : State) : Prop := Mem X σ U.heap ∧ Rg σ ∧ Kn X U
/-- a method's contract -/
def Ct (X : XW) (l : Launch) (y : MethodName) (cc : ByteArray) (maxL : Nat) (ret : Option FieldType) (fr lo : Nat) (σ : Mm) (av : List AV) (post : Option AV → Mm → Prop) : Prop :=
  Met l y (.code y cc maxL ret :: Wds) ({ frames := fr, cells := 0, slots := 0, locals := lo }) (va_Pc (av.map (tv X)) (Wo X σ)) (Qo X post) 0 0 (Apl X)
/-- the locals at a method's entry -/
def ent : Nat → List AV → List (Nat × AV)
  | _, [] => []
  | i, v :: r => (i, v) :: ent (i + cA v) r
theorem ent_args {X : XW} : ∀ (i : Nat) (av : List AV), (ent i av).map (fun q => (q.1, tv X q.2)) = lv_args i (av.map (tv X))
  | _, [] => rfl
  | i, v :: r => by
    have h := ent_args (X := X) (i + cA v) r
    unfold ent
    rw [List.map_cons, List.map_cons, h]
    show _ = (i, tv X v) :: lv_args (if (tv X v).category = 2 then i + 2 else i + 1) (r.map (tv X))
    rw [tv_cat]
    rcases v with z | z | p <;> rfl
theorem Ct.intro {X : XW} {l : Launch} {y : MethodName} {cc : ByteArray} {maxL : Nat} {ret : Option FieldType} {fr lo : Nat} {σ : Mm} {av : List AV} {post : Option AV → Mm → Prop} {own : String} (hy : plainName y.cls = true) (hown : y.cls = own) (hlen : (lg_sl (av.map (tv X))).length ≤ maxL)
    (body : ∀ M : MX, M.2.1 = l → MOk X M cc maxL fr lo own → RQ X M post ret → G X M cc maxL σ 0 (ent 0 av) []) : Ct X l y cc maxL ret fr lo σ av post := by
  refine Met.ofW (cc := cc) (maxL := maxL) (ret := ret) hy rfl ?_
  intro p e s m args below meth c s₁ B hml hv
  obtain ⟨rfl, hM, hR, hK⟩ := hv
  have hts := atoms_spec (ws := .code y cc maxL ret :: Wds) B.pre
  have ho : s.vm.findClass own = some m.cls := hown ▸ findClass_of_methodNamed B.named
  have b := body (p, l, e, (headSpec (.code y cc maxL ret :: Wds) { frames := fr, cells := 0, slots := 0, locals := lo }).room, s, m, (av.map (tv X)).toArray, below, meth, c, MQ below (Qo X post) (av.map (tv X)).toArray s 0 0 (Apl X)) rfl ⟨B.exec, B.bytes, hml, ho, fun w hw => hts w (List.mem_cons_of_mem _ hw), hK, rfl, rfl⟩ ⟨rfl, B.returns, B.notSynchronized⟩
  rw [lg_entry_eq]
  have hl := lv_entry (av.map (tv X)) (n := maxL) hlen
  refine b s.heap [] _ hM hR va_S.rf ⟨hl.1, hl.2.1, fun q hq => hl.2.2 q ?_⟩
  obtain ⟨v, h1, h2⟩ := nf_mem hq
  rw [← ent_args]
  exact List.mem_map.mpr ⟨(q.1, v), h1, by rw [← h2]⟩
section ROWS
variable {X : XW} {M : MX} {cc : ByteArray} {nL fr lo : Nat} {own : String} {σ : Mm} {pc : Nat} {ls : List (Nat × AV)} {st : List AV}
theorem G.norm (l2 : List (Nat × AV)) (h : Lin ls l2) (k : G X M cc nL σ pc l2 st) : G X M cc nL σ pc ls st := by
  obtain ⟨p, l, e, R, s, m, args, below, meth, c, Q⟩ := M
  exact fun H locs la hM hR hS hl => k H locs la hM hR hS (h.has hl)
theorem G.rg (k : Rg σ → G X M cc nL σ pc ls st) : G X M cc nL σ pc ls st := by
  obtain ⟨p, l, e, R, s, m, args, below, meth, c, Q⟩ := M
  exact fun H locs la hM hR hS hl => k hR H locs la hM hR hS hl

theorem g_iload_n {k : Fin 4} {i : Nat} {z : Int} (ok : MOk X M cc nL fr lo own) (hd : decode cc pc = .ok (.iload_n k, 1)) (hi : (k : Nat) = i) (hk : lk ls i = some (.inl z))
    (kk : G X M cc nL σ (pc + 1) ls (.inl z :: st)) : G X M cc nL σ pc ls st := by
  obtain ⟨p, l, e, R, s, m, args, below, meth, c, Q⟩ := M
  obtain ⟨hx, hb, hml, hown, hts, hK, hfr, hlo⟩ := ok
  intro H locs la hM hR hS hl
  exact lv_iload_n hx hb hd hi (hl.2.2 _ (lk_mem (X := X) hk)) (kk H locs la hM hR hS hl)
theorem g_iload {i : Nat} {z : Int} (ok : MOk X M cc nL fr lo own) (hd : decode cc pc = .ok (.iload i, 2)) (hk : lk ls i = some (.inl z))
    (kk : G X M cc nL σ (pc + 2) ls (.inl z :: st)) : G X M cc nL σ pc ls st := by
  obtain ⟨p, l, e, R, s, m, args, below, meth, c, Q⟩ := M
  obtain ⟨hx, hb, hml, hown, hts, hK, hfr, hlo⟩ := ok
  intro H locs la hM hR hS hl
  exact lv_iload hx hb hd (hl.2.2 _ (lk_mem (X := X) hk)) (kk H locs la hM hR hS hl)
theorem g_lload_n {k : Fin 4} {i : Nat} {z : Int} (ok : MOk X M cc nL fr lo own) (hd : decode cc pc = .ok (.lload_n k, 1)) (hi : (k : Nat) = i) (hk : lk ls i = some (.inr (.inl z)))
    (kk : G X M cc nL σ (pc + 1) ls (.inr (.inl z) :: st)) : G X M cc nL σ pc ls st := by
  obtain ⟨p, l, e, R, s, m, args, below, meth, c, Q⟩ := M
  obtain ⟨hx, hb, hml, hown, hts, hK, hfr, hlo⟩ := ok
  intro H locs la hM hR hS hl
  exact lv_lload_n hx hb hd hi (hl.2.2 _ (lk_mem (X := X) hk)) (kk H locs la hM hR hS hl)
theorem g_lload {i : Nat} {z : Int} (ok : MOk X M cc nL fr lo own) (hd : decode cc pc = .ok (.lload i, 2)) (hk : lk ls i = some (.inr (.inl z)))
    (kk : G X M cc nL σ (pc + 2) ls (.inr (.inl z) :: st)) : G X M cc nL σ pc ls st := by
  obtain ⟨p, l, e, R, s, m, args, below, meth, c, Q⟩ := M
  obtain ⟨hx, hb, hml, hown, hts, hK, hfr, hlo⟩ := ok
  intro H locs la hM hR hS hl
  exact lv_lload hx hb hd (hl.2.2 _ (lk_mem (X := X) hk)) (kk H locs la hM hR hS hl)
theorem g_aload_n {k : Fin 4} {i : Nat} {q : Nat × Int} (ok : MOk X M cc nL fr lo own) (hd : decode cc pc = .ok (.aload_n k, 1)) (hi : (k : Nat) = i) (hk : lk ls i = some (.inr (.inr q)))
    (kk : G X M cc nL σ (pc + 1) ls (.inr (.inr q) :: st)) : G X M cc nL σ pc ls st := by
  obtain ⟨p, l, e, R, s, m, args, below, meth, c, Q⟩ := M
  obtain ⟨hx, hb, hml, hown, hts, hK, hfr, hlo⟩ := ok
  intro H locs la hM hR hS hl
  exact lv_aload_n hx hb hd hi (hl.2.2 _ (lk_mem (X := X) hk)) (kk H locs la hM hR hS hl)
theorem g_aload {i : Nat} {q : Nat × Int} (ok : MOk X M cc nL fr lo own) (hd : decode cc pc = .ok (.aload i, 2)) (hk : lk ls i = some (.inr (.inr q)))
    (kk : G X M cc nL σ (pc + 2) ls (.inr (.inr q) :: st)) : G X M cc nL σ pc ls st := by
  obtain ⟨p, l, e, R, s, m, args, below, meth, c, Q⟩ := M
  obtain ⟨hx, hb, hml, hown, hts, hK, hfr, hlo⟩ := ok
  intro H locs la hM hR hS hl
  exact lv_aload hx hb hd (hl.2.2 _ (lk_mem (X := X) hk)) (kk H locs la hM hR hS hl)
theorem g_istore_n {k : Fin 4} {i : Nat} {z : Int} (ok : MOk X M cc nL fr lo own) (hd : decode cc pc = .ok (.istore_n k, 1)) (hi : (k : Nat) = i) (hn : i < nL)
    (kk : G X M cc nL σ (pc + 1) ((i, .inl z) :: ls) st) : G X M cc nL σ pc ls (.inl z :: st) := by
  obtain ⟨p, l, e, R, s, m, args, below, meth, c, Q⟩ := M
  obtain ⟨hx, hb, hml, hown, hts, hK, hfr, hlo⟩ := ok
  intro H locs la hM hR hS hl
  exact lv_istore_n (lv' := nf X ((i, .inl z) :: ls)) hx hb hd hi hl hn rfl (fun la2 hl2 => kk H locs la2 hM hR hS hl2)
theorem g_istore {i : Nat} {z : Int} (ok : MOk X M cc nL fr lo own) (hd : decode cc pc = .ok (.istore i, 2)) (hn : i < nL)
    (kk : G X M cc nL σ (pc + 2) ((i, .inl z) :: ls) st) : G X M cc nL σ pc ls (.inl z :: st) := by
  obtain ⟨p, l, e, R, s, m, args, below, meth, c, Q⟩ := M
  obtain ⟨hx, hb, hml, hown, hts, hK, hfr, hlo⟩ := ok
  intro H locs la hM hR hS hl
  exact lv_istore (lv' := nf X ((i, .inl z) :: ls)) hx hb hd hl hn rfl (fun la2 hl2 => kk H locs la2 hM hR hS hl2)
theorem g_lstore_n {k : Fin 4} {i : Nat} {z : Int} (ok : MOk X M cc nL fr lo own) (hd : decode cc pc = .ok (.lstore_n k, 1)) (hi : (k : Nat) = i) (hn : i + 1 < nL)
    (kk : G X M cc nL σ (pc + 1) ((i, .inr (.inl z)) :: ls) st) : G X M cc nL σ pc ls (.inr (.inl z) :: st) := by
  obtain ⟨p, l, e, R, s, m, args, below, meth, c, Q⟩ := M
  obtain ⟨hx, hb, hml, hown, hts, hK, hfr, hlo⟩ := ok
  intro H locs la hM hR hS hl
  exact lv_lstore_n (lv' := nf X ((i, .inr (.inl z)) :: ls)) hx hb hd hi hl hn rfl (fun la2 hl2 => kk H locs la2 hM hR hS hl2)
theorem g_lstore {i : Nat} {z : Int} (ok : MOk X M cc nL fr lo own) (hd : decode cc pc = .ok (.lstore i, 2)) (hn : i + 1 < nL)
    (kk : G X M cc nL σ (pc + 2) ((i, .inr (.inl z)) :: ls) st) : G X M cc nL σ pc ls (.inr (.inl z) :: st) := by
  obtain ⟨p, l, e, R, s, m, args, below, meth, c, Q⟩ := M
  obtain ⟨hx, hb, hml, hown, hts, hK, hfr, hlo⟩ := ok
  intro H locs la hM hR hS hl
  exact lv_lstore (lv' := nf X ((i, .inr (.inl z)) :: ls)) hx hb hd hl hn rfl (fun la2 hl2 => kk H locs la2 hM hR hS hl2)
theorem g_astore_n {k : Fin 4} {i : Nat} {q : Nat × Int} (ok : MOk X M cc nL fr lo own) (hd : decode cc pc = .ok (.astore_n k, 1)) (hi : (k : Nat) = i) (hn : i < nL)
    (kk : G X M cc nL σ (pc + 1) ((i, .inr (.inr q)) :: ls) st) : G X M cc nL σ pc ls (.inr (.inr q) :: st) := by
  obtain ⟨p, l, e, R, s, m, args, below, meth, c, Q⟩ := M
  obtain ⟨hx, hb, hml, hown, hts, hK, hfr, hlo⟩ := ok
  intro H locs la hM hR hS hl
  exact lv_astore_n (lv' := nf X ((i, .inr (.inr q)) :: ls)) hx hb hd hi hl hn rfl (fun la2 hl2 => kk H locs la2 hM hR hS hl2)
theorem g_astore {i : Nat} {q : Nat × Int} (ok : MOk X M cc nL fr lo own) (hd : decode cc pc = .ok (.astore i, 2)) (hn : i < nL)
    (kk : G X M cc nL σ (pc + 2) ((i, .inr (.inr q)) :: ls) st) : G X M cc nL σ pc ls (.inr (.inr q) :: st) := by
  obtain ⟨p, l, e, R, s, m, args, below, meth, c, Q⟩ := M
  obtain ⟨hx, hb, hml, hown, hts, hK, hfr, hlo⟩ := ok
  intro H locs la hM hR hS hl
  exact lv_astore (lv' := nf X ((i, .inr (.inr q)) :: ls)) hx hb hd hl hn rfl (fun la2 hl2 => kk H locs la2 hM hR hS hl2)
theorem g_iinc {i : Nat} {n z v : Int} (ok : MOk X M cc nL fr lo own) (hd : decode cc pc = .ok (.iinc i n, 3)) (hk : lk ls i = some (.inl z)) (hv : z + n = v) (hn : i < nL)
    (kk : G X M cc nL σ (pc + 3) ((i, .inl v) :: ls) st) : G X M cc nL σ pc ls st := by
  obtain ⟨p, l, e, R, s, m, args, below, meth, c, Q⟩ := M
  obtain ⟨hx, hb, hml, hown, hts, hK, hfr, hlo⟩ := ok
  intro H locs la hM hR hS hl
  obtain ⟨k, hkk⟩ := List.getElem?_of_mem (lk_mem (X := X) hk)
  refine lv_iinc (v := iI v) (lv' := nf X ((i, .inl v) :: ls)) hx hb hd hl (k := k) hkk ?_ hn rfl (fun la2 hl2 => kk H locs la2 hM hR hS hl2)
  rw [← hv, ← iI_add]
  rfl
theorem g_iconst {n v : Int} (ok : MOk X M cc nL fr lo own) (hd : decode cc pc = .ok (.iconst n, 1)) (hv : Int32.ofInt n = iI v)
    (kk : G X M cc nL σ (pc + 1) ls (.inl v :: st)) : G X M cc nL σ pc ls st := by
  obtain ⟨p, l, e, R, s, m, args, below, meth, c, Q⟩ := M
  obtain ⟨hx, hb, hml, hown, hts, hK, hfr, hlo⟩ := ok
  intro H locs la hM hR hS hl
  exact lv_iconst hx hb hd hv (kk H locs la hM hR hS hl)
theorem g_bipush {n v : Int} (ok : MOk X M cc nL fr lo own) (hd : decode cc pc = .ok (.bipush n, 2)) (hv : (Int8.ofInt n).toInt32 = iI v)
    (kk : G X M cc nL σ (pc + 2) ls (.inl v :: st)) : G X M cc nL σ pc ls st := by
  obtain ⟨p, l, e, R, s, m, args, below, meth, c, Q⟩ := M
  obtain ⟨hx, hb, hml, hown, hts, hK, hfr, hlo⟩ := ok
  intro H locs la hM hR hS hl
  exact lv_bipush hx hb hd hv (kk H locs la hM hR hS hl)
theorem g_sipush {n v : Int} (ok : MOk X M cc nL fr lo own) (hd : decode cc pc = .ok (.sipush n, 3)) (hv : (Int16.ofInt n).toInt32 = iI v)
    (kk : G X M cc nL σ (pc + 3) ls (.inl v :: st)) : G X M cc nL σ pc ls st := by
  obtain ⟨p, l, e, R, s, m, args, below, meth, c, Q⟩ := M
  obtain ⟨hx, hb, hml, hown, hts, hK, hfr, hlo⟩ := ok
  intro H locs la hM hR hS hl
  exact lv_sipush hx hb hd hv (kk H locs la hM hR hS hl)
theorem g_lconst {n : Fin 2} {v : Int} (ok : MOk X M cc nL fr lo own) (hd : decode cc pc = .ok (.lconst n, 1)) (hv : Int64.ofNat (n : Nat) = lI v)
    (kk : G X M cc nL σ (pc + 1) ls (.inr (.inl v) :: st)) : G X M cc nL σ pc ls st := by
  obtain ⟨p, l, e, R, s, m, args, below, meth, c, Q⟩ := M
  obtain ⟨hx, hb, hml, hown, hts, hK, hfr, hlo⟩ := ok
  intro H locs la hM hR hS hl
  exact lv_lconst hx hb hd hv (kk H locs la hM hR hS hl)
theorem g_ldc {idx : Nat} {w : Int32} {v : Int} (ok : MOk X M cc nL fr lo own) (hd : decode cc pc = .ok (.ldc idx, 2)) (hw : Cond.constant own idx w ∈ Wds) (hv : w = iI v)
    (kk : G X M cc nL σ (pc + 2) ls (.inl v :: st)) : G X M cc nL σ pc ls st := by
  obtain ⟨p, l, e, R, s, m, args, below, meth, c, Q⟩ := M
  obtain ⟨hx, hb, hml, hown, hts, hK, hfr, hlo⟩ := ok
  intro H locs la hM hR hS hl
  exact lv_ldc hx hb hown (hts _ hw) hd (by subst hv; exact kk H locs la hM hR hS hl)
theorem g_ldcw {idx : Nat} {w : Int32} {v : Int} (ok : MOk X M cc nL fr lo own) (hd : decode cc pc = .ok (.ldc_w idx, 3)) (hw : Cond.constant own idx w ∈ Wds) (hv : w = iI v)
    (kk : G X M cc nL σ (pc + 3) ls (.inl v :: st)) : G X M cc nL σ pc ls st := by
  obtain ⟨p, l, e, R, s, m, args, below, meth, c, Q⟩ := M
  obtain ⟨hx, hb, hml, hown, hts, hK, hfr, hlo⟩ := ok
  intro H locs la hM hR hS hl
  exact lv_ldcw hx hb hown (hts _ hw) hd (by subst hv; exact kk H locs la hM hR hS hl)
theorem g_ldc2 {idx : Nat} {w : Int64} {v : Int} (ok : MOk X M cc nL fr lo own) (hd : decode cc pc = .ok (.ldc2_w idx, 3)) (hw : Cond.constantLong own idx w ∈ Wds) (hv : w = lI v)
    (kk : G X M cc nL σ (pc + 3) ls (.inr (.inl v) :: st)) : G X M cc nL σ pc ls st := by
  obtain ⟨p, l, e, R, s, m, args, below, meth, c, Q⟩ := M
  obtain ⟨hx, hb, hml, hown, hts, hK, hfr, hlo⟩ := ok
  intro H locs la hM hR hS hl
  exact lv_ldc2 hx hb hown (hts _ hw) hd (by subst hv; exact kk H locs la hM hR hS hl)
theorem g_iadd {a b : Int} (ok : MOk X M cc nL fr lo own) (hd : decode cc pc = .ok (.iadd, 1)) 
    (kk : G X M cc nL σ (pc + 1) ls (.inl (a + b) :: st)) : G X M cc nL σ pc ls (.inl b :: .inl a :: st) := by
  obtain ⟨p, l, e, R, s, m, args, below, meth, c, Q⟩ := M
  obtain ⟨hx, hb, hml, hown, hts, hK, hfr, hlo⟩ := ok
  intro H locs la hM hR hS hl
  refine lv_iadd (x := iI a) (y := iI b) hx hb hd ?_
  rw [iI_add]
  exact kk H locs la hM hR hS hl
theorem g_isub {a b : Int} (ok : MOk X M cc nL fr lo own) (hd : decode cc pc = .ok (.isub, 1)) 
    (kk : G X M cc nL σ (pc + 1) ls (.inl (a - b) :: st)) : G X M cc nL σ pc ls (.inl b :: .inl a :: st) := by
  obtain ⟨p, l, e, R, s, m, args, below, meth, c, Q⟩ := M
  obtain ⟨hx, hb, hml, hown, hts, hK, hfr, hlo⟩ := ok
  intro H locs la hM hR hS hl
  refine lv_isub (x := iI a) (y := iI b) hx hb hd ?_
  rw [iI_sub]
  exact kk H locs la hM hR hS hl
theorem g_imul {a b : Int} (ok : MOk X M cc nL fr lo own) (hd : decode cc pc = .ok (.imul, 1)) 
    (kk : G X M cc nL σ (pc + 1) ls (.inl (a * b) :: st)) : G X M cc nL σ pc ls (.inl b :: .inl a :: st) := by
  obtain ⟨p, l, e, R, s, m, args, below, meth, c, Q⟩ := M
  obtain ⟨hx, hb, hml, hown, hts, hK, hfr, hlo⟩ := ok
  intro H locs la hM hR hS hl
  refine lv_imul (x := iI a) (y := iI b) hx hb hd ?_
  rw [iI_mul]
  exact kk H locs la hM hR hS hl
theorem g_ladd {a b : Int} (ok : MOk X M cc nL fr lo own) (hd : decode cc pc = .ok (.ladd, 1)) 
    (kk : G X M cc nL σ (pc + 1) ls (.inr (.inl (a + b)) :: st)) : G X M cc nL σ pc ls (.inr (.inl b) :: .inr (.inl a) :: st) := by
  obtain ⟨p, l, e, R, s, m, args, below, meth, c, Q⟩ := M
  obtain ⟨hx, hb, hml, hown, hts, hK, hfr, hlo⟩ := ok
  intro H locs la hM hR hS hl
  refine lv_ladd (x := lI a) (y := lI b) hx hb hd ?_
  rw [lI_add]
  exact kk H locs la hM hR hS hl
theorem g_lsub {a b : Int} (ok : MOk X M cc nL fr lo own) (hd : decode cc pc = .ok (.lsub, 1)) 
    (kk : G X M cc nL σ (pc + 1) ls (.inr (.inl (a - b)) :: st)) : G X M cc nL σ pc ls (.inr (.inl b) :: .inr (.inl a) :: st) := by
  obtain ⟨p, l, e, R, s, m, args, below, meth, c, Q⟩ := M
  obtain ⟨hx, hb, hml, hown, hts, hK, hfr, hlo⟩ := ok
  intro H locs la hM hR hS hl
  refine lv_lsub (x := lI a) (y := lI b) hx hb hd ?_
  rw [lI_sub]
  exact kk H locs la hM hR hS hl
theorem g_lmul {a b : Int} (ok : MOk X M cc nL fr lo own) (hd : decode cc pc = .ok (.lmul, 1)) 
    (kk : G X M cc nL σ (pc + 1) ls (.inr (.inl (a * b)) :: st)) : G X M cc nL σ pc ls (.inr (.inl b) :: .inr (.inl a) :: st) := by
  obtain ⟨p, l, e, R, s, m, args, below, meth, c, Q⟩ := M
  obtain ⟨hx, hb, hml, hown, hts, hK, hfr, hlo⟩ := ok
  intro H locs la hM hR hS hl
  refine lv_lmul (x := lI a) (y := lI b) hx hb hd ?_
  rw [lI_mul]
  exact kk H locs la hM hR hS hl
theorem g_ineg {a : Int} (ok : MOk X M cc nL fr lo own) (hd : decode cc pc = .ok (.ineg, 1)) 
    (kk : G X M cc nL σ (pc + 1) ls (.inl (-a) :: st)) : G X M cc nL σ pc ls (.inl a :: st) := by
  obtain ⟨p, l, e, R, s, m, args, below, meth, c, Q⟩ := M
  obtain ⟨hx, hb, hml, hown, hts, hK, hfr, hlo⟩ := ok
  intro H locs la hM hR hS hl
  refine lv_ineg (x := iI a) hx hb hd ?_
  rw [iI_neg]
  exact kk H locs la hM hR hS hl
theorem g_lneg {a : Int} (ok : MOk X M cc nL fr lo own) (hd : decode cc pc = .ok (.lneg, 1)) 
    (kk : G X M cc nL σ (pc + 1) ls (.inr (.inl (-a)) :: st)) : G X M cc nL σ pc ls (.inr (.inl a) :: st) := by
  obtain ⟨p, l, e, R, s, m, args, below, meth, c, Q⟩ := M
  obtain ⟨hx, hb, hml, hown, hts, hK, hfr, hlo⟩ := ok
  intro H locs la hM hR hS hl
  refine lv_lneg (x := lI a) hx hb hd ?_
  rw [lI_neg]
  exact kk H locs la hM hR hS hl
theorem g_idiv {a b : Int} (ok : MOk X M cc nL fr lo own) (hd : decode cc pc = .ok (.idiv, 1)) (ra : R32 a) (rb : R32 b) (h0 : b ≠ 0)
    (kk : G X M cc nL σ (pc + 1) ls (.inl (a.tdiv b) :: st)) : G X M cc nL σ pc ls (.inl b :: .inl a :: st) := by
  obtain ⟨p, l, e, R, s, m, args, below, meth, c, Q⟩ := M
  obtain ⟨hx, hb, hml, hown, hts, hK, hfr, hlo⟩ := ok
  intro H locs la hM hR hS hl
  refine lv_idiv (x := iI a) (y := iI b) hx hb hd (fun q => h0 ((iI_eq rb r0).mp (q.trans iI_0.symm))) ?_
  rw [iI_div ra rb]
  exact kk H locs la hM hR hS hl
theorem g_irem {a b : Int} (ok : MOk X M cc nL fr lo own) (hd : decode cc pc = .ok (.irem, 1)) (ra : R32 a) (rb : R32 b) (h0 : b ≠ 0)
    (kk : G X M cc nL σ (pc + 1) ls (.inl (a.tmod b) :: st)) : G X M cc nL σ pc ls (.inl b :: .inl a :: st) := by
  obtain ⟨p, l, e, R, s, m, args, below, meth, c, Q⟩ := M
  obtain ⟨hx, hb, hml, hown, hts, hK, hfr, hlo⟩ := ok
  intro H locs la hM hR hS hl
  refine lv_irem (x := iI a) (y := iI b) hx hb hd (fun q => h0 ((iI_eq rb r0).mp (q.trans iI_0.symm))) ?_
  rw [iI_rem ra rb]
  exact kk H locs la hM hR hS hl
theorem g_idivP {a b : Int} (ok : MOk X M cc nL fr lo own) (hd : decode cc pc = .ok (.idiv, 1)) (ra : R32 a) (rb : R32 b) (h0 : b ≠ 0) (hp : 0 ≤ a)
    (kk : G X M cc nL σ (pc + 1) ls (.inl (a / b) :: st)) : G X M cc nL σ pc ls (.inl b :: .inl a :: st) := by
  obtain ⟨p, l, e, R, s, m, args, below, meth, c, Q⟩ := M
  obtain ⟨hx, hb, hml, hown, hts, hK, hfr, hlo⟩ := ok
  intro H locs la hM hR hS hl
  refine lv_idiv (x := iI a) (y := iI b) hx hb hd (fun q => h0 ((iI_eq rb r0).mp (q.trans iI_0.symm))) ?_
  rw [iI_div ra rb, tdiv_pos hp]
  exact kk H locs la hM hR hS hl
theorem g_iremP {a b : Int} (ok : MOk X M cc nL fr lo own) (hd : decode cc pc = .ok (.irem, 1)) (ra : R32 a) (rb : R32 b) (h0 : b ≠ 0) (hp : 0 ≤ a)
    (kk : G X M cc nL σ (pc + 1) ls (.inl (a % b) :: st)) : G X M cc nL σ pc ls (.inl b :: .inl a :: st) := by
  obtain ⟨p, l, e, R, s, m, args, below, meth, c, Q⟩ := M
  obtain ⟨hx, hb, hml, hown, hts, hK, hfr, hlo⟩ := ok
  intro H locs la hM hR hS hl
  refine lv_irem (x := iI a) (y := iI b) hx hb hd (fun q => h0 ((iI_eq rb r0).mp (q.trans iI_0.symm))) ?_
  rw [iI_rem ra rb, tmod_pos hp]
  exact kk H locs la hM hR hS hl
theorem g_iand {a b : Int} (ok : MOk X M cc nL fr lo own) (hd : decode cc pc = .ok (.iand, 1)) 
    (kk : R32 (band a b) → G X M cc nL σ (pc + 1) ls (.inl (band a b) :: st)) : G X M cc nL σ pc ls (.inl b :: .inl a :: st) := by
  obtain ⟨p, l, e, R, s, m, args, below, meth, c, Q⟩ := M
  obtain ⟨hx, hb, hml, hown, hts, hK, hfr, hlo⟩ := ok
  intro H locs la hM hR hS hl
  refine lv_iand (x := iI a) (y := iI b) hx hb hd ?_
  have k := kk (band_r a b) H locs la hM hR hS hl
  unfold band at k
  simp only [List.map_cons, tv, iI_of] at k
  exact k
theorem g_ixor {a b : Int} (ok : MOk X M cc nL fr lo own) (hd : decode cc pc = .ok (.ixor, 1)) 
    (kk : R32 (bxor a b) → G X M cc nL σ (pc + 1) ls (.inl (bxor a b) :: st)) : G X M cc nL σ pc ls (.inl b :: .inl a :: st) := by
  obtain ⟨p, l, e, R, s, m, args, below, meth, c, Q⟩ := M
  obtain ⟨hx, hb, hml, hown, hts, hK, hfr, hlo⟩ := ok
  intro H locs la hM hR hS hl
  refine lv_ixor (x := iI a) (y := iI b) hx hb hd ?_
  have k := kk (bxor_r a b) H locs la hM hR hS hl
  unfold bxor at k
  simp only [List.map_cons, tv, iI_of] at k
  exact k
theorem g_ishr {a b : Int} (ok : MOk X M cc nL fr lo own) (hd : decode cc pc = .ok (.ishr, 1)) 
    (kk : R32 (bshr a b) → G X M cc nL σ (pc + 1) ls (.inl (bshr a b) :: st)) : G X M cc nL σ pc ls (.inl b :: .inl a :: st) := by
  obtain ⟨p, l, e, R, s, m, args, below, meth, c, Q⟩ := M
  obtain ⟨hx, hb, hml, hown, hts, hK, hfr, hlo⟩ := ok
  intro H locs la hM hR hS hl
  refine lv_ishr (x := iI a) (y := iI b) hx hb hd ?_
  have k := kk (bshr_r a b) H locs la hM hR hS hl
  unfold bshr at k
  simp only [List.map_cons, tv, iI_of] at k
  exact k
theorem g_iushr {a b : Int} (ok : MOk X M cc nL fr lo own) (hd : decode cc pc = .ok (.iushr, 1)) 
    (kk : R32 (bushr a b) → G X M cc nL σ (pc + 1) ls (.inl (bushr a b) :: st)) : G X M cc nL σ pc ls (.inl b :: .inl a :: st) := by
  obtain ⟨p, l, e, R, s, m, args, below, meth, c, Q⟩ := M
  obtain ⟨hx, hb, hml, hown, hts, hK, hfr, hlo⟩ := ok
  intro H locs la hM hR hS hl
  refine lv_iushr (x := iI a) (y := iI b) hx hb hd rfl ?_
  have k := kk (bushr_r a b) H locs la hM hR hS hl
  unfold bushr at k
  simp only [List.map_cons, tv, iI_of] at k
  exact k
theorem g_i2l {a : Int} (ok : MOk X M cc nL fr lo own) (hd : decode cc pc = .ok (.i2l, 1)) (ra : R32 a)
    (kk : G X M cc nL σ (pc + 1) ls (.inr (.inl a) :: st)) : G X M cc nL σ pc ls (.inl a :: st) := by
  obtain ⟨p, l, e, R, s, m, args, below, meth, c, Q⟩ := M
  obtain ⟨hx, hb, hml, hown, hts, hK, hfr, hlo⟩ := ok
  intro H locs la hM hR hS hl
  exact lv_i2l (x := iI a) hx hb hd (iI_l ra) (kk H locs la hM hR hS hl)
theorem g_l2i {a : Int} (ok : MOk X M cc nL fr lo own) (hd : decode cc pc = .ok (.l2i, 1)) 
    (kk : G X M cc nL σ (pc + 1) ls (.inl a :: st)) : G X M cc nL σ pc ls (.inr (.inl a) :: st) := by
  obtain ⟨p, l, e, R, s, m, args, below, meth, c, Q⟩ := M
  obtain ⟨hx, hb, hml, hown, hts, hK, hfr, hlo⟩ := ok
  intro H locs la hM hR hS hl
  exact lv_l2i (x := lI a) hx hb hd (lI_i a) (kk H locs la hM hR hS hl)
theorem g_dup {v : AV} (ok : MOk X M cc nL fr lo own) (hd : decode cc pc = .ok (.dup, 1)) (hc : cA v = 1)
    (kk : G X M cc nL σ (pc + 1) ls (v :: v :: st)) : G X M cc nL σ pc ls (v :: st) := by
  obtain ⟨p, l, e, R, s, m, args, below, meth, c, Q⟩ := M
  obtain ⟨hx, hb, hml, hown, hts, hK, hfr, hlo⟩ := ok
  intro H locs la hM hR hS hl
  exact lv_dup hx hb hd ((tv_cat X v).trans hc) (kk H locs la hM hR hS hl)
theorem g_goto {off : Int} {tgt : Nat} (ok : MOk X M cc nL fr lo own) (hd : decode cc pc = .ok (.goto off, 3)) (ht : (pc : Int) + off = (tgt : Int)) (kk : G X M cc nL σ tgt ls st) : G X M cc nL σ pc ls st := by
  obtain ⟨p, l, e, R, s, m, args, below, meth, c, Q⟩ := M
  obtain ⟨hx, hb, hml, hown, hts, hK, hfr, hlo⟩ := ok
  intro H locs la hM hR hS hl
  exact lv_goto hx hb hd ht (kk H locs la hM hR hS hl)
theorem g_icmp_eq {a b off : Int} {tgt : Nat} (ok : MOk X M cc nL fr lo own) (hd : decode cc pc = .ok (.if_icmp .eq off, 3)) (ht : (pc : Int) + off = (tgt : Int)) (ra : R32 a) (rb : R32 b)
    (kt : a = b → G X M cc nL σ tgt ls st) (kf : ¬ a = b → G X M cc nL σ (pc + 3) ls st) : G X M cc nL σ pc ls (.inl b :: .inl a :: st) := by
  obtain ⟨p, l, e, R, s, m, args, below, meth, c, Q⟩ := M
  obtain ⟨hx, hb, hml, hown, hts, hK, hfr, hlo⟩ := ok
  intro H locs la hM hR hS hl
  exact lv_icmp_eq (x := iI a) (y := iI b) hx hb hd ht (fun q => kt ((iI_eq ra rb).mp q) H locs la hM hR hS hl) (fun q => kf (fun z => q ((iI_eq ra rb).mpr z)) H locs la hM hR hS hl)
theorem g_if_eq {a off : Int} {tgt : Nat} (ok : MOk X M cc nL fr lo own) (hd : decode cc pc = .ok (.ifCond .eq off, 3)) (ht : (pc : Int) + off = (tgt : Int)) (ra : R32 a)
    (kt : a = 0 → G X M cc nL σ tgt ls st) (kf : ¬ a = 0 → G X M cc nL σ (pc + 3) ls st) : G X M cc nL σ pc ls (.inl a :: st) := by
  obtain ⟨p, l, e, R, s, m, args, below, meth, c, Q⟩ := M
  obtain ⟨hx, hb, hml, hown, hts, hK, hfr, hlo⟩ := ok
  intro H locs la hM hR hS hl
  exact lv_if_eq (x := iI a) hx hb hd ht (fun q => kt ((iI_eq ra r0).mp (by rw [iI_0]; exact q)) H locs la hM hR hS hl) (fun q => kf (fun z => q (by rw [← iI_0]; exact (iI_eq ra r0).mpr z)) H locs la hM hR hS hl)
theorem g_lcmp_eq {a b off : Int} {tgt : Nat} (ok : MOk X M cc nL fr lo own) (hd0 : decode cc pc = .ok (.lcmp, 1)) (hd : decode cc (pc + 1) = .ok (.ifCond .eq off, 3)) (ht : ((pc + 1 : Nat) : Int) + off = (tgt : Int)) (ra : R64 a) (rb : R64 b)
    (kt : a = b → G X M cc nL σ tgt ls st) (kf : ¬ a = b → G X M cc nL σ (pc + 1 + 3) ls st) : G X M cc nL σ pc ls (.inr (.inl b) :: .inr (.inl a) :: st) := by
  obtain ⟨p, l, e, R, s, m, args, below, meth, c, Q⟩ := M
  obtain ⟨hx, hb, hml, hown, hts, hK, hfr, hlo⟩ := ok
  intro H locs la hM hR hS hl
  refine W.lcmp (x := lI a) (y := lI b) hx hb hd0 ?_
  exact lv_if_eq hx hb hd ht (fun q => kt ((lI_eq ra rb).mp ((lg_cmp_eq _ _).mp q)) H locs la hM hR hS hl) (fun q => kf (fun z => q ((lg_cmp_eq _ _).mpr ((lI_eq ra rb).mpr z))) H locs la hM hR hS hl)
theorem g_icmp_ne {a b off : Int} {tgt : Nat} (ok : MOk X M cc nL fr lo own) (hd : decode cc pc = .ok (.if_icmp .ne off, 3)) (ht : (pc : Int) + off = (tgt : Int)) (ra : R32 a) (rb : R32 b)
    (kt : ¬ a = b → G X M cc nL σ tgt ls st) (kf : a = b → G X M cc nL σ (pc + 3) ls st) : G X M cc nL σ pc ls (.inl b :: .inl a :: st) := by
  obtain ⟨p, l, e, R, s, m, args, below, meth, c, Q⟩ := M
  obtain ⟨hx, hb, hml, hown, hts, hK, hfr, hlo⟩ := ok
  intro H locs la hM hR hS hl
  exact lv_icmp_ne (x := iI a) (y := iI b) hx hb hd ht (fun q => kt (fun z => q ((iI_eq ra rb).mpr z)) H locs la hM hR hS hl) (fun q => kf ((iI_eq ra rb).mp q) H locs la hM hR hS hl)
theorem g_if_ne {a off : Int} {tgt : Nat} (ok : MOk X M cc nL fr lo own) (hd : decode cc pc = .ok (.ifCond .ne off, 3)) (ht : (pc : Int) + off = (tgt : Int)) (ra : R32 a)
    (kt : ¬ a = 0 → G X M cc nL σ tgt ls st) (kf : a = 0 → G X M cc nL σ (pc + 3) ls st) : G X M cc nL σ pc ls (.inl a :: st) := by
  obtain ⟨p, l, e, R, s, m, args, below, meth, c, Q⟩ := M
  obtain ⟨hx, hb, hml, hown, hts, hK, hfr, hlo⟩ := ok
  intro H locs la hM hR hS hl
  exact lv_if_ne (x := iI a) hx hb hd ht (fun q => kt (fun z => q (by rw [← iI_0]; exact (iI_eq ra r0).mpr z)) H locs la hM hR hS hl) (fun q => kf ((iI_eq ra r0).mp (by rw [iI_0]; exact q)) H locs la hM hR hS hl)
theorem g_lcmp_ne {a b off : Int} {tgt : Nat} (ok : MOk X M cc nL fr lo own) (hd0 : decode cc pc = .ok (.lcmp, 1)) (hd : decode cc (pc + 1) = .ok (.ifCond .ne off, 3)) (ht : ((pc + 1 : Nat) : Int) + off = (tgt : Int)) (ra : R64 a) (rb : R64 b)
    (kt : ¬ a = b → G X M cc nL σ tgt ls st) (kf : a = b → G X M cc nL σ (pc + 1 + 3) ls st) : G X M cc nL σ pc ls (.inr (.inl b) :: .inr (.inl a) :: st) := by
  obtain ⟨p, l, e, R, s, m, args, below, meth, c, Q⟩ := M
  obtain ⟨hx, hb, hml, hown, hts, hK, hfr, hlo⟩ := ok
  intro H locs la hM hR hS hl
  refine W.lcmp (x := lI a) (y := lI b) hx hb hd0 ?_
  exact lv_if_ne hx hb hd ht (fun q => kt (fun z => q ((lg_cmp_eq _ _).mpr ((lI_eq ra rb).mpr z))) H locs la hM hR hS hl) (fun q => kf ((lI_eq ra rb).mp ((lg_cmp_eq _ _).mp q)) H locs la hM hR hS hl)
theorem g_icmp_lt {a b off : Int} {tgt : Nat} (ok : MOk X M cc nL fr lo own) (hd : decode cc pc = .ok (.if_icmp .lt off, 3)) (ht : (pc : Int) + off = (tgt : Int)) (ra : R32 a) (rb : R32 b)
    (kt : a < b → G X M cc nL σ tgt ls st) (kf : ¬ a < b → G X M cc nL σ (pc + 3) ls st) : G X M cc nL σ pc ls (.inl b :: .inl a :: st) := by
  obtain ⟨p, l, e, R, s, m, args, below, meth, c, Q⟩ := M
  obtain ⟨hx, hb, hml, hown, hts, hK, hfr, hlo⟩ := ok
  intro H locs la hM hR hS hl
  exact lv_icmp_lt (x := iI a) (y := iI b) hx hb hd ht (fun q => kt ((iI_lt ra rb).mp q) H locs la hM hR hS hl) (fun q => kf (fun z => q ((iI_lt ra rb).mpr z)) H locs la hM hR hS hl)
theorem g_if_lt {a off : Int} {tgt : Nat} (ok : MOk X M cc nL fr lo own) (hd : decode cc pc = .ok (.ifCond .lt off, 3)) (ht : (pc : Int) + off = (tgt : Int)) (ra : R32 a)
    (kt : a < 0 → G X M cc nL σ tgt ls st) (kf : ¬ a < 0 → G X M cc nL σ (pc + 3) ls st) : G X M cc nL σ pc ls (.inl a :: st) := by
  obtain ⟨p, l, e, R, s, m, args, below, meth, c, Q⟩ := M
  obtain ⟨hx, hb, hml, hown, hts, hK, hfr, hlo⟩ := ok
  intro H locs la hM hR hS hl
  exact lv_if_lt (x := iI a) hx hb hd ht (fun q => kt ((iI_lt ra r0).mp (by rw [iI_0]; exact q)) H locs la hM hR hS hl) (fun q => kf (fun z => q (by rw [← iI_0]; exact (iI_lt ra r0).mpr z)) H locs la hM hR hS hl)
theorem g_lcmp_lt {a b off : Int} {tgt : Nat} (ok : MOk X M cc nL fr lo own) (hd0 : decode cc pc = .ok (.lcmp, 1)) (hd : decode cc (pc + 1) = .ok (.ifCond .lt off, 3)) (ht : ((pc + 1 : Nat) : Int) + off = (tgt : Int)) (ra : R64 a) (rb : R64 b)
    (kt : a < b → G X M cc nL σ tgt ls st) (kf : ¬ a < b → G X M cc nL σ (pc + 1 + 3) ls st) : G X M cc nL σ pc ls (.inr (.inl b) :: .inr (.inl a) :: st) := by
  obtain ⟨p, l, e, R, s, m, args, below, meth, c, Q⟩ := M
  obtain ⟨hx, hb, hml, hown, hts, hK, hfr, hlo⟩ := ok
  intro H locs la hM hR hS hl
  refine W.lcmp (x := lI a) (y := lI b) hx hb hd0 ?_
  exact lv_if_lt hx hb hd ht (fun q => kt ((lI_lt ra rb).mp ((lg_cmp_lt _ _).mp q)) H locs la hM hR hS hl) (fun q => kf (fun z => q ((lg_cmp_lt _ _).mpr ((lI_lt ra rb).mpr z))) H locs la hM hR hS hl)
theorem g_icmp_ge {a b off : Int} {tgt : Nat} (ok : MOk X M cc nL fr lo own) (hd : decode cc pc = .ok (.if_icmp .ge off, 3)) (ht : (pc : Int) + off = (tgt : Int)) (ra : R32 a) (rb : R32 b)
    (kt : b ≤ a → G X M cc nL σ tgt ls st) (kf : ¬ b ≤ a → G X M cc nL σ (pc + 3) ls st) : G X M cc nL σ pc ls (.inl b :: .inl a :: st) := by
  obtain ⟨p, l, e, R, s, m, args, below, meth, c, Q⟩ := M
  obtain ⟨hx, hb, hml, hown, hts, hK, hfr, hlo⟩ := ok
  intro H locs la hM hR hS hl
  exact lv_icmp_ge (x := iI a) (y := iI b) hx hb hd ht (fun q => kt ((iI_le rb ra).mp q) H locs la hM hR hS hl) (fun q => kf (fun z => q ((iI_le rb ra).mpr z)) H locs la hM hR hS hl)
theorem g_if_ge {a off : Int} {tgt : Nat} (ok : MOk X M cc nL fr lo own) (hd : decode cc pc = .ok (.ifCond .ge off, 3)) (ht : (pc : Int) + off = (tgt : Int)) (ra : R32 a)
    (kt : 0 ≤ a → G X M cc nL σ tgt ls st) (kf : ¬ 0 ≤ a → G X M cc nL σ (pc + 3) ls st) : G X M cc nL σ pc ls (.inl a :: st) := by
  obtain ⟨p, l, e, R, s, m, args, below, meth, c, Q⟩ := M
  obtain ⟨hx, hb, hml, hown, hts, hK, hfr, hlo⟩ := ok
  intro H locs la hM hR hS hl
  exact lv_if_ge (x := iI a) hx hb hd ht (fun q => kt ((iI_le r0 ra).mp (by rw [iI_0]; exact q)) H locs la hM hR hS hl) (fun q => kf (fun z => q (by rw [← iI_0]; exact (iI_le r0 ra).mpr z)) H locs la hM hR hS hl)
theorem g_lcmp_ge {a b off : Int} {tgt : Nat} (ok : MOk X M cc nL fr lo own) (hd0 : decode cc pc = .ok (.lcmp, 1)) (hd : decode cc (pc + 1) = .ok (.ifCond .ge off, 3)) (ht : ((pc + 1 : Nat) : Int) + off = (tgt : Int)) (ra : R64 a) (rb : R64 b)
    (kt : b ≤ a → G X M cc nL σ tgt ls st) (kf : ¬ b ≤ a → G X M cc nL σ (pc + 1 + 3) ls st) : G X M cc nL σ pc ls (.inr (.inl b) :: .inr (.inl a) :: st) := by
  obtain ⟨p, l, e, R, s, m, args, below, meth, c, Q⟩ := M
  obtain ⟨hx, hb, hml, hown, hts, hK, hfr, hlo⟩ := ok
  intro H locs la hM hR hS hl
  refine W.lcmp (x := lI a) (y := lI b) hx hb hd0 ?_
  exact lv_if_ge hx hb hd ht (fun q => kt ((lI_le rb ra).mp ((lg_cmp_ge _ _).mp q)) H locs la hM hR hS hl) (fun q => kf (fun z => q ((lg_cmp_ge _ _).mpr ((lI_le rb ra).mpr z))) H locs la hM hR hS hl)
theorem g_icmp_gt {a b off : Int} {tgt : Nat} (ok : MOk X M cc nL fr lo own) (hd : decode cc pc = .ok (.if_icmp .gt off, 3)) (ht : (pc : Int) + off = (tgt : Int)) (ra : R32 a) (rb : R32 b)
    (kt : b < a → G X M cc nL σ tgt ls st) (kf : ¬ b < a → G X M cc nL σ (pc + 3) ls st) : G X M cc nL σ pc ls (.inl b :: .inl a :: st) := by
  obtain ⟨p, l, e, R, s, m, args, below, meth, c, Q⟩ := M
  obtain ⟨hx, hb, hml, hown, hts, hK, hfr, hlo⟩ := ok
  intro H locs la hM hR hS hl
  exact lv_icmp_gt (x := iI a) (y := iI b) hx hb hd ht (fun q => kt ((iI_lt rb ra).mp q) H locs la hM hR hS hl) (fun q => kf (fun z => q ((iI_lt rb ra).mpr z)) H locs la hM hR hS hl)
theorem g_if_gt {a off : Int} {tgt : Nat} (ok : MOk X M cc nL fr lo own) (hd : decode cc pc = .ok (.ifCond .gt off, 3)) (ht : (pc : Int) + off = (tgt : Int)) (ra : R32 a)
    (kt : 0 < a → G X M cc nL σ tgt ls st) (kf : ¬ 0 < a → G X M cc nL σ (pc + 3) ls st) : G X M cc nL σ pc ls (.inl a :: st) := by
  obtain ⟨p, l, e, R, s, m, args, below, meth, c, Q⟩ := M
  obtain ⟨hx, hb, hml, hown, hts, hK, hfr, hlo⟩ := ok
  intro H locs la hM hR hS hl
  exact lv_if_gt (x := iI a) hx hb hd ht (fun q => kt ((iI_lt r0 ra).mp (by rw [iI_0]; exact q)) H locs la hM hR hS hl) (fun q => kf (fun z => q (by rw [← iI_0]; exact (iI_lt r0 ra).mpr z)) H locs la hM hR hS hl)
theorem g_lcmp_gt {a b off : Int} {tgt : Nat} (ok : MOk X M cc nL fr lo own) (hd0 : decode cc pc = .ok (.lcmp, 1)) (hd : decode cc (pc + 1) = .ok (.ifCond .gt off, 3)) (ht : ((pc + 1 : Nat) : Int) + off = (tgt : Int)) (ra : R64 a) (rb : R64 b)
    (kt : b < a → G X M cc nL σ tgt ls st) (kf : ¬ b < a → G X M cc nL σ (pc + 1 + 3) ls st) : G X M cc nL σ pc ls (.inr (.inl b) :: .inr (.inl a) :: st) := by
  obtain ⟨p, l, e, R, s, m, args, below, meth, c, Q⟩ := M
  obtain ⟨hx, hb, hml, hown, hts, hK, hfr, hlo⟩ := ok
  intro H locs la hM hR hS hl
  refine W.lcmp (x := lI a) (y := lI b) hx hb hd0 ?_
  exact lv_if_gt hx hb hd ht (fun q => kt ((lI_lt rb ra).mp ((lg_cmp_gt _ _).mp q)) H locs la hM hR hS hl) (fun q => kf (fun z => q ((lg_cmp_gt _ _).mpr ((lI_lt rb ra).mpr z))) H locs la hM hR hS hl)
theorem g_icmp_le {a b off : Int} {tgt : Nat} (ok : MOk X M cc nL fr lo own) (hd : decode cc pc = .ok (.if_icmp .le off, 3)) (ht : (pc : Int) + off = (tgt : Int)) (ra : R32 a) (rb : R32 b)
    (kt : a ≤ b → G X M cc nL σ tgt ls st) (kf : ¬ a ≤ b → G X M cc nL σ (pc + 3) ls st) : G X M cc nL σ pc ls (.inl b :: .inl a :: st) := by
  obtain ⟨p, l, e, R, s, m, args, below, meth, c, Q⟩ := M
  obtain ⟨hx, hb, hml, hown, hts, hK, hfr, hlo⟩ := ok
  intro H locs la hM hR hS hl
  exact lv_icmp_le (x := iI a) (y := iI b) hx hb hd ht (fun q => kt ((iI_le ra rb).mp q) H locs la hM hR hS hl) (fun q => kf (fun z => q ((iI_le ra rb).mpr z)) H locs la hM hR hS hl)
theorem g_if_le {a off : Int} {tgt : Nat} (ok : MOk X M cc nL fr lo own) (hd : decode cc pc = .ok (.ifCond .le off, 3)) (ht : (pc : Int) + off = (tgt : Int)) (ra : R32 a)
    (kt : a ≤ 0 → G X M cc nL σ tgt ls st) (kf : ¬ a ≤ 0 → G X M cc nL σ (pc + 3) ls st) : G X M cc nL σ pc ls (.inl a :: st) := by
  obtain ⟨p, l, e, R, s, m, args, below, meth, c, Q⟩ := M
  obtain ⟨hx, hb, hml, hown, hts, hK, hfr, hlo⟩ := ok
  intro H locs la hM hR hS hl
  exact lv_if_le (x := iI a) hx hb hd ht (fun q => kt ((iI_le ra r0).mp (by rw [iI_0]; exact q)) H locs la hM hR hS hl) (fun q => kf (fun z => q (by rw [← iI_0]; exact (iI_le ra r0).mpr z)) H locs la hM hR hS hl)
theorem g_lcmp_le {a b off : Int} {tgt : Nat} (ok : MOk X M cc nL fr lo own) (hd0 : decode cc pc = .ok (.lcmp, 1)) (hd : decode cc (pc + 1) = .ok (.ifCond .le off, 3)) (ht : ((pc + 1 : Nat) : Int) + off = (tgt : Int)) (ra : R64 a) (rb : R64 b)
    (kt : a ≤ b → G X M cc nL σ tgt ls st) (kf : ¬ a ≤ b → G X M cc nL σ (pc + 1 + 3) ls st) : G X M cc nL σ pc ls (.inr (.inl b) :: .inr (.inl a) :: st) := by
  obtain ⟨p, l, e, R, s, m, args, below, meth, c, Q⟩ := M
  obtain ⟨hx, hb, hml, hown, hts, hK, hfr, hlo⟩ := ok
  intro H locs la hM hR hS hl
  refine W.lcmp (x := lI a) (y := lI b) hx hb hd0 ?_
  exact lv_if_le hx hb hd ht (fun q => kt ((lI_le ra rb).mp ((lg_cmp_le _ _).mp q)) H locs la hM hR hS hl) (fun q => kf (fun z => q ((lg_cmp_le _ _).mpr ((lI_le ra rb).mpr z))) H locs la hM hR hS hl)
theorem g_ifb_eq {P : Prop} [Decidable P] {off : Int} {tgt : Nat} (ok : MOk X M cc nL fr lo own) (hd : decode cc pc = .ok (.ifCond .eq off, 3)) (ht : (pc : Int) + off = (tgt : Int))
    (kt : ¬ P → G X M cc nL σ tgt ls st) (kf : P → G X M cc nL σ (pc + 3) ls st) : G X M cc nL σ pc ls (.inl (bI P) :: st) :=
  g_if_eq ok hd ht ⟨by have := (bI_in (c := P)).1; omega, by have := (bI_in (c := P)).2; omega⟩ (fun h => kt (bI_0.mp h)) (fun h => kf (Decidable.of_not_not (fun z => h (bI_0.mpr z))))
theorem g_ifb_ne {P : Prop} [Decidable P] {off : Int} {tgt : Nat} (ok : MOk X M cc nL fr lo own) (hd : decode cc pc = .ok (.ifCond .ne off, 3)) (ht : (pc : Int) + off = (tgt : Int))
    (kt : P → G X M cc nL σ tgt ls st) (kf : ¬ P → G X M cc nL σ (pc + 3) ls st) : G X M cc nL σ pc ls (.inl (bI P) :: st) :=
  g_if_ne ok hd ht ⟨by have := (bI_in (c := P)).1; omega, by have := (bI_in (c := P)).2; omega⟩ (fun h => kt (Decidable.of_not_not (fun z => h (bI_0.mpr z)))) (fun h => kf (bI_0.mp h))
theorem g_tabIn {dflt lo2 hi off z : Int} {offs : Array Int} {len tgt : Nat} (ok : MOk X M cc nL fr lo own) (hd : decode cc pc = .ok (.tableswitch dflt lo2 hi offs, len)) (r : R32 z) (h1 : lo2 ≤ z) (h2 : z ≤ hi) (ho : offs[(z - lo2).toNat]? = some off) (ht : (pc : Int) + off = (tgt : Int))
    (kk : G X M cc nL σ tgt ls st) : G X M cc nL σ pc ls (.inl z :: st) := by
  obtain ⟨p, l, e, R, s, m, args, below, meth, c, Q⟩ := M
  obtain ⟨hx, hb, hml, hown, hts, hK, hfr, hlo⟩ := ok
  intro H locs la hM hR hS hl
  exact lv_tableIn (x := iI z) hx hb hd (by rw [iI_toInt r]; omega) (by rw [iI_toInt r]; omega) (by rw [iI_toInt r]; exact ho) ht (kk H locs la hM hR hS hl)
theorem g_tabOut {dflt lo2 hi z : Int} {offs : Array Int} {len tgt : Nat} (ok : MOk X M cc nL fr lo own) (hd : decode cc pc = .ok (.tableswitch dflt lo2 hi offs, len)) (r : R32 z) (h1 : z < lo2 ∨ hi < z) (ht : (pc : Int) + dflt = (tgt : Int))
    (kk : G X M cc nL σ tgt ls st) : G X M cc nL σ pc ls (.inl z :: st) := by
  obtain ⟨p, l, e, R, s, m, args, below, meth, c, Q⟩ := M
  obtain ⟨hx, hb, hml, hown, hts, hK, hfr, hlo⟩ := ok
  intro H locs la hM hR hS hl
  exact lv_tableOut (x := iI z) hx hb hd (by rw [iI_toInt r]; omega) ht (kk H locs la hM hR hS hl)
end ROWS
end
section
/-! rows that read and write the world, calls, ends -/
theorem Vd.one {a : Nat} (h : cntN a = 1) : Vd a 0 := ⟨by omega, by rw [h]; decide⟩
theorem Vd.four {a : Nat} {i : Int} (h : cntN a = 4) (h0 : 0 ≤ i) (h1 : i < 4) : Vd a i := ⟨h0, by rw [h]; exact h1⟩
/-- the field of number k of class ci, under a number of own's pool -/
def FL (own : String) (idx ci k : Nat) : Prop := ∃ (C : String) (T : u_T) (N : Nat), vwCl[ci]? = some (C, T, N) ∧ k < N ∧ Cond.fieldLink own idx C (T k).2.1 (T k).2.2.1 ∈ Wds ∧ (T k).1 = C ∧ ∀ w ∈ u_ws C T N, w ∈ Wds
def FW (own : String) (idx ci k : Nat) (ty : FieldType) : Prop := ∃ (C : String) (T : u_T) (N : Nat) (ty0 : Nat → FieldType), vwCl[ci]? = some (C, T, N) ∧ k < N ∧ Cond.fieldLink own idx C (T k).2.1 (T k).2.2.1 ∈ Wds ∧ (T k).1 = C ∧ (∀ w ∈ u_ws C T N, w ∈ Wds) ∧ (∀ k, k < N → parseFieldDescriptor (T k).2.2.1 = some (ty0 k)) ∧ (∀ a, a < N → ∀ b, b < N → a ≠ b → (T a).2.1 ≠ (T b).2.1) ∧ (T k).2.2.2 = false ∧ parseFieldDescriptor (T k).2.2.1 = some ty
section HEAP
variable {X : XW} {M : MX} {cc : ByteArray} {nL fr lo : Nat} {own : String} {σ : Mm} {pc : Nat} {ls : List (Nat × AV)} {st : List AV}
theorem g_getv {idx ci k a : Nat} {i : Int} {fs : List Value} {v : AV} (ok : MOk X M cc nL fr lo own) (hd : decode cc pc = .ok (.getfield idx, 3)) (hf : FL own idx ci k) (hv : Vd a i) (he : encF X a i (σ a i) = .inr (ci, fs)) (hk : fs[k]? = some (tv X v))
    (kk : G X M cc nL σ (pc + 3) ls (v :: st)) : G X M cc nL σ pc ls (.inr (.inr (a, i)) :: st) := by
  obtain ⟨p, l, e, R, s, m, args, below, meth, c, Q⟩ := M
  obtain ⟨hx, hb, hml, hown, hts, hK, hfr, hlo⟩ := ok
  intro H locs la hM hR hS hl
  obtain ⟨C, T, N, hc, hkN, hlink, hC, hin⟩ := hf
  exact va_get hx hb hts hin hown hK.1 (hM.one hv) 0 (by rw [he]; rfl) hc k hkN (hts _ hlink) (fun x h => by rw [hC] at h; exact h) hk hd (kk H locs la hM hR hS hl)
theorem g_getr {idx ci k a b : Nat} {i j : Int} {fs : List Value} (ok : MOk X M cc nL fr lo own) (hd : decode cc pc = .ok (.getfield idx, 3)) (hf : FL own idx ci k) (hv : Vd a i) (he : encF X a i (σ a i) = .inr (ci, fs)) (hk : fs[k]? = some (.ref (X.1 b j)))
    (kk : G X M cc nL σ (pc + 3) ls (.inr (.inr (b, j)) :: st)) : G X M cc nL σ pc ls (.inr (.inr (a, i)) :: st) := g_getv (v := .inr (.inr (b, j))) ok hd hf hv he hk kk
theorem g_geti {idx ci k a : Nat} {i z : Int} {fs : List Value} (ok : MOk X M cc nL fr lo own) (hd : decode cc pc = .ok (.getfield idx, 3)) (hf : FL own idx ci k) (hv : Vd a i) (he : encF X a i (σ a i) = .inr (ci, fs)) (hk : fs[k]? = some (.int (iI (σ a i z)))) (ht : tyk a z = 0)
    (kk : -2147483648 ≤ σ a i z → σ a i z ≤ 2147483647 → G X M cc nL σ (pc + 3) ls (.inl (σ a i z) :: st)) : G X M cc nL σ pc ls (.inr (.inr (a, i)) :: st) := by
  refine G.rg (fun hR => ?_)
  have h := hR a i z
  rw [ht] at h
  exact g_getv (v := .inl (σ a i z)) ok hd hf hv he hk (kk h.1 h.2)
theorem g_getz {idx ci k a : Nat} {i z : Int} {fs : List Value} (ok : MOk X M cc nL fr lo own) (hd : decode cc pc = .ok (.getfield idx, 3)) (hf : FL own idx ci k) (hv : Vd a i) (he : encF X a i (σ a i) = .inr (ci, fs)) (hk : fs[k]? = some (.int (iI (σ a i z)))) (ht : tyk a z = 2)
    (kk : 0 ≤ σ a i z → σ a i z ≤ 1 → G X M cc nL σ (pc + 3) ls (.inl (σ a i z) :: st)) : G X M cc nL σ pc ls (.inr (.inr (a, i)) :: st) := by
  refine G.rg (fun hR => ?_)
  have h := hR a i z
  rw [ht] at h
  exact g_getv (v := .inl (σ a i z)) ok hd hf hv he hk (kk h.1 h.2)
theorem g_putv {idx ci k a : Nat} {i z v : Int} {fs : List Value} {ty : FieldType} (ok : MOk X M cc nL fr lo own) (hd : decode cc pc = .ok (.putfield idx, 3)) (hf : FW own idx ci k ty) (hv : Vd a i) (he : encF X a i (σ a i) = .inr (ci, fs)) (hs : encF X a i (u1 (σ a i) z v) = .inr (ci, fs.set k (.int (iI v)))) (hl2 : k < fs.length) (hn : narrow ty (.int (iI v)) = .int (iI v)) (hfit : fits ty (.int (iI v)) = true) (rv : inT (tyk a z) v)
    (kk : G X M cc nL (up σ a i z v) (pc + 3) ls st) : G X M cc nL σ pc ls (.inl v :: .inr (.inr (a, i)) :: st) := by
  obtain ⟨p, l, e, R, s, m, args, below, meth, c, Q⟩ := M
  obtain ⟨hx, hb, hml, hown, hts, hK, hfr, hlo⟩ := ok
  intro H locs la hM hR hS hl
  obtain ⟨C, T, N, ty0, hc, hkN, hlink, hC, hin, hty, hnm, hfin, hpd⟩ := hf
  obtain ⟨k2, hp, hw⟩ := wl_get (X := X) (σ := σ) hv
  rw [he] at hw
  refine va_put hx hb hts hin ty0 hty hnm hown hK.1 hM.P hK.2.1.D hS k2 hw hc k hkN (hts _ hlink) (fun x h => by rw [hC] at h; exact h) hfin hpd hn hfit hl2 hd (fun H1 locs1 hP1 _ hS1 => ?_)
  exact kk H1 locs1 la (hP1 |> fun q => Mem.put hp hs.symm q (up_same σ a i z v) (fun b j h => up_other σ z v h)) (Rg_up hR rv) hS1 hl
theorem g_puti {idx ci k a : Nat} {i z v : Int} {fs : List Value} (ok : MOk X M cc nL fr lo own) (hd : decode cc pc = .ok (.putfield idx, 3)) (hf : FW own idx ci k .int) (hv : Vd a i) (he : encF X a i (σ a i) = .inr (ci, fs)) (hs : encF X a i (u1 (σ a i) z v) = .inr (ci, fs.set k (.int (iI v)))) (hl2 : k < fs.length) (ht : tyk a z = 0) (rv : R32 v)
    (kk : G X M cc nL (up σ a i z v) (pc + 3) ls st) : G X M cc nL σ pc ls (.inl v :: .inr (.inr (a, i)) :: st) := g_putv ok hd hf hv he hs hl2 rfl rfl (by rw [ht]; exact rv) kk
theorem nar_b {v : Int} (h0 : 0 ≤ v) (h1 : v ≤ 1) : narrow .boolean (.int (iI v)) = .int (iI v) ∧ fits .boolean (.int (iI v)) = true ∧ vp_nar .boolean (iI v) = iI v := by
  rcases (show v = 0 ∨ v = 1 by omega) with rfl | rfl
  · decide +kernel
  · decide +kernel
theorem g_putz {idx ci k a : Nat} {i z v : Int} {fs : List Value} (ok : MOk X M cc nL fr lo own) (hd : decode cc pc = .ok (.putfield idx, 3)) (hf : FW own idx ci k .boolean) (hv : Vd a i) (he : encF X a i (σ a i) = .inr (ci, fs)) (hs : encF X a i (u1 (σ a i) z v) = .inr (ci, fs.set k (.int (iI v)))) (hl2 : k < fs.length) (ht : tyk a z = 2) (h0 : 0 ≤ v) (h1 : v ≤ 1)
    (kk : G X M cc nL (up σ a i z v) (pc + 3) ls st) : G X M cc nL σ pc ls (.inl v :: .inr (.inr (a, i)) :: st) := g_putv ok hd hf hv he hs hl2 (nar_b h0 h1).1 (nar_b h0 h1).2.1 (by rw [ht]; exact ⟨h0, h1⟩) kk
/-- arrays -/
theorem g_iald {a n : Nat} {i z : Int} (ok : MOk X M cc nL fr lo own) (hd : decode cc pc = .ok (.iaload, 1)) (hv : Vd a i) (he : ∀ g, encF X a i g = aI X n g) (hz : 0 ≤ z ∧ z < n) (hn : n < 2147483648) (ht : tyk a z = 0)
    (kk : -2147483648 ≤ σ a i z → σ a i z ≤ 2147483647 → G X M cc nL σ (pc + 1) ls (.inl (σ a i z) :: st)) : G X M cc nL σ pc ls (.inl z :: .inr (.inr (a, i)) :: st) := by
  obtain ⟨p, l, e, R, s, m, args, below, meth, c, Q⟩ := M
  obtain ⟨hx, hb, hml, hown, hts, hK, hfr, hlo⟩ := ok
  intro H locs la hM hR hS hl
  have h := hR a i z
  rw [ht] at h
  have k := kk h.1 h.2 H locs la hM hR hS hl
  refine va_iald (i := iI z) (f := fun j : Nat => iI (σ a i j)) hx hb hK.1 (hM.one hv) 0 0 (by rw [he]; rfl) rfl (iI_in hz.1 hz.2 hn) hd ?_
  rw [iI_clamp hz.1 ⟨by omega, by omega⟩, Int.toNat_of_nonneg hz.1]
  exact k
theorem g_lald {a n : Nat} {i z : Int} (ok : MOk X M cc nL fr lo own) (hd : decode cc pc = .ok (.laload, 1)) (hv : Vd a i) (he : ∀ g, encF X a i g = aJ X n g) (hz : 0 ≤ z ∧ z < n) (hn : n < 2147483648) (ht : tyk a z = 1)
    (kk : -9223372036854775808 ≤ σ a i z → σ a i z ≤ 9223372036854775807 → G X M cc nL σ (pc + 1) ls (.inr (.inl (σ a i z)) :: st)) : G X M cc nL σ pc ls (.inl z :: .inr (.inr (a, i)) :: st) := by
  obtain ⟨p, l, e, R, s, m, args, below, meth, c, Q⟩ := M
  obtain ⟨hx, hb, hml, hown, hts, hK, hfr, hlo⟩ := ok
  intro H locs la hM hR hS hl
  have h := hR a i z
  rw [ht] at h
  have k := kk h.1 h.2 H locs la hM hR hS hl
  refine va_lald (i := iI z) (f := fun j : Nat => lI (σ a i j)) hx hb hK.1 (hM.one hv) 0 1 (by rw [he]; rfl) rfl (iI_in hz.1 hz.2 hn) hd ?_
  rw [iI_clamp hz.1 ⟨by omega, by omega⟩, Int.toNat_of_nonneg hz.1]
  exact k
theorem g_zald {a n : Nat} {i z : Int} (ok : MOk X M cc nL fr lo own) (hd : decode cc pc = .ok (.baload, 1)) (hv : Vd a i) (he : ∀ g, encF X a i g = aZ X n g) (hz : 0 ≤ z ∧ z < n) (hn : n < 2147483648) (ht : tyk a z = 2)
    (kk : 0 ≤ σ a i z → σ a i z ≤ 1 → G X M cc nL σ (pc + 1) ls (.inl (σ a i z) :: st)) : G X M cc nL σ pc ls (.inl z :: .inr (.inr (a, i)) :: st) := by
  obtain ⟨p, l, e, R, s, m, args, below, meth, c, Q⟩ := M
  obtain ⟨hx, hb, hml, hown, hts, hK, hfr, hlo⟩ := ok
  intro H locs la hM hR hS hl
  have h := hR a i z
  rw [ht] at h
  have k := kk h.1 h.2 H locs la hM hR hS hl
  refine va_zald (i := iI z) (f := fun j : Nat => iI (σ a i j)) hx hb hK.1 (hM.one hv) 0 2 (by rw [he]; rfl) rfl (iI_in hz.1 hz.2 hn) hd ?_
  rw [iI_clamp hz.1 ⟨by omega, by omega⟩, Int.toNat_of_nonneg hz.1]
  exact k
theorem g_aald {a b t : Nat} {i z : Int} {C : String} (ok : MOk X M cc nL fr lo own) (hd : decode cc pc = .ok (.aaload, 1)) (hv : Vd a i) (he : ∀ g, encF X a i g = aQ X t b) (hz : 0 ≤ z ∧ z < 4) (ht : (tyA X)[t]? = some (X.2.2 t, .object C))
    (kk : G X M cc nL σ (pc + 1) ls (.inr (.inr (b, z)) :: st)) : G X M cc nL σ pc ls (.inl z :: .inr (.inr (a, i)) :: st) := by
  obtain ⟨p, l, e, R, s, m, args, below, meth, c, Q⟩ := M
  obtain ⟨hx, hb, hml, hown, hts, hK, hfr, hlo⟩ := ok
  intro H locs la hM hR hS hl
  have k := kk H locs la hM hR hS hl
  refine va_aldq (i := iI z) (f := fun j : Nat => some (X.1 b j)) hx hb hK.1 (hM.one hv) 0 t (by rw [he]; rfl) ht (iI_in hz.1 hz.2 (by decide)) hd ?_
  rw [iI_clamp hz.1 ⟨by omega, by omega⟩, Int.toNat_of_nonneg hz.1]
  exact k
theorem upd_i {g : Int → Int} {z v : Int} (h0 : 0 ≤ z) : upd (fun j : Nat => iI (g j)) z.toNat (iI v) = fun j : Nat => iI (u1 g z v j) := by
  funext j
  unfold upd u1
  by_cases h : j = z.toNat
  · rw [if_pos h, if_pos (by omega)]
  · rw [if_neg h, if_neg (by omega)]
theorem updL_i {g : Int → Int} {z v : Int} (h0 : 0 ≤ z) : vp_updL (fun j : Nat => lI (g j)) z.toNat (lI v) = fun j : Nat => lI (u1 g z v j) := by
  funext j
  unfold vp_updL u1
  by_cases h : j = z.toNat
  · rw [if_pos h, if_pos (by omega)]
  · rw [if_neg h, if_neg (by omega)]
theorem g_iast {a n : Nat} {i z v : Int} (ok : MOk X M cc nL fr lo own) (hd : decode cc pc = .ok (.iastore, 1)) (hv : Vd a i) (he : ∀ g, encF X a i g = aI X n g) (hz : 0 ≤ z ∧ z < n) (hn : n < 2147483648) (ht : tyk a z = 0) (rv : R32 v)
    (kk : G X M cc nL (up σ a i z v) (pc + 1) ls st) : G X M cc nL σ pc ls (.inl v :: .inl z :: .inr (.inr (a, i)) :: st) := by
  obtain ⟨p, l, e, R, s, m, args, below, meth, c, Q⟩ := M
  obtain ⟨hx, hb, hml, hown, hts, hK, hfr, hlo⟩ := ok
  intro H locs la hM hR hS hl
  obtain ⟨k2, hp, hw⟩ := wl_get (X := X) (σ := σ) hv
  rw [he] at hw
  refine va_iast (i := iI z) (x := iI v) (f := fun j : Nat => iI (σ a i j)) hx hb hK.1 hM.P hK.2.1.D hS k2 0 hw rfl (iI_in hz.1 hz.2 hn) hd (fun H1 locs1 hP1 _ hS1 => ?_)
  refine kk H1 locs1 la (Mem.put (g := u1 (σ a i) z v) hp ?_ hP1 (up_same σ a i z v) (fun b j h => up_other σ z v h)) (Rg_up hR (by rw [ht]; exact rv)) hS1 hl
  rw [he, iI_clamp hz.1 ⟨by omega, by omega⟩, upd_i hz.1]
  rfl
theorem g_zast {a n : Nat} {i z v : Int} (ok : MOk X M cc nL fr lo own) (hd : decode cc pc = .ok (.bastore, 1)) (hv : Vd a i) (he : ∀ g, encF X a i g = aZ X n g) (hz : 0 ≤ z ∧ z < n) (hn : n < 2147483648) (ht : tyk a z = 2) (h0 : 0 ≤ v) (h1 : v ≤ 1)
    (kk : G X M cc nL (up σ a i z v) (pc + 1) ls st) : G X M cc nL σ pc ls (.inl v :: .inl z :: .inr (.inr (a, i)) :: st) := by
  obtain ⟨p, l, e, R, s, m, args, below, meth, c, Q⟩ := M
  obtain ⟨hx, hb, hml, hown, hts, hK, hfr, hlo⟩ := ok
  intro H locs la hM hR hS hl
  obtain ⟨k2, hp, hw⟩ := wl_get (X := X) (σ := σ) hv
  rw [he] at hw
  refine va_zast (i := iI z) (x := iI v) (f := fun j : Nat => iI (σ a i j)) hx hb hK.1 hM.P hK.2.1.D hS k2 2 hw rfl (iI_in hz.1 hz.2 hn) hd (fun H1 locs1 hP1 _ hS1 => ?_)
  refine kk H1 locs1 la (Mem.put (g := u1 (σ a i) z v) hp ?_ hP1 (up_same σ a i z v) (fun b j h => up_other σ z v h)) (Rg_up hR (by rw [ht]; exact ⟨h0, h1⟩)) hS1 hl
  rw [he, iI_clamp hz.1 ⟨by omega, by omega⟩, (nar_b h0 h1).2.2, upd_i hz.1]
  rfl
theorem g_last {a n : Nat} {i z v : Int} (ok : MOk X M cc nL fr lo own) (hd : decode cc pc = .ok (.lastore, 1)) (hv : Vd a i) (he : ∀ g, encF X a i g = aJ X n g) (hz : 0 ≤ z ∧ z < n) (hn : n < 2147483648) (ht : tyk a z = 1) (rv : R64 v)
    (kk : G X M cc nL (up σ a i z v) (pc + 1) ls st) : G X M cc nL σ pc ls (.inr (.inl v) :: .inl z :: .inr (.inr (a, i)) :: st) := by
  obtain ⟨p, l, e, R, s, m, args, below, meth, c, Q⟩ := M
  obtain ⟨hx, hb, hml, hown, hts, hK, hfr, hlo⟩ := ok
  intro H locs la hM hR hS hl
  obtain ⟨k2, hp, hw⟩ := wl_get (X := X) (σ := σ) hv
  rw [he] at hw
  refine va_last (i := iI z) (x := lI v) (f := fun j : Nat => lI (σ a i j)) hx hb hK.1 hM.P hK.2.1.D hS k2 1 hw rfl (iI_in hz.1 hz.2 hn) hd (fun H1 locs1 hP1 _ hS1 => ?_)
  refine kk H1 locs1 la (Mem.put (g := u1 (σ a i) z v) hp ?_ hP1 (up_same σ a i z v) (fun b j h => up_other σ z v h)) (Rg_up hR (by rw [ht]; exact rv)) hS1 hl
  rw [he, iI_clamp hz.1 ⟨by omega, by omega⟩, updL_i hz.1]
  rfl
theorem g_alenI {a n : Nat} {i : Int} (ok : MOk X M cc nL fr lo own) (hd : decode cc pc = .ok (.arraylength, 1)) (hv : Vd a i) (he : ∀ g, encF X a i g = aI X n g)
    (kk : G X M cc nL σ (pc + 1) ls (.inl n :: st)) : G X M cc nL σ pc ls (.inr (.inr (a, i)) :: st) := by
  obtain ⟨p, l, e, R, s, m, args, below, meth, c, Q⟩ := M
  obtain ⟨hx, hb, hml, hown, hts, hK, hfr, hlo⟩ := ok
  intro H locs la hM hR hS hl
  exact va_alen hx hb hK.1 (hM.one hv) 0 0 (x := (n, .inl (fun j : Nat => iI (σ a i j)))) (by rw [he]; rfl) (ty := .int) rfl (v := iI n) (iI_nat n) hd (kk H locs la hM hR hS hl)
theorem g_alenJ {a n : Nat} {i : Int} (ok : MOk X M cc nL fr lo own) (hd : decode cc pc = .ok (.arraylength, 1)) (hv : Vd a i) (he : ∀ g, encF X a i g = aJ X n g)
    (kk : G X M cc nL σ (pc + 1) ls (.inl n :: st)) : G X M cc nL σ pc ls (.inr (.inr (a, i)) :: st) := by
  obtain ⟨p, l, e, R, s, m, args, below, meth, c, Q⟩ := M
  obtain ⟨hx, hb, hml, hown, hts, hK, hfr, hlo⟩ := ok
  intro H locs la hM hR hS hl
  exact va_alen hx hb hK.1 (hM.one hv) 0 1 (x := (n, .inr (.inl (fun j : Nat => lI (σ a i j))))) (by rw [he]; rfl) (ty := .long) rfl (v := iI n) (iI_nat n) hd (kk H locs la hM hR hS hl)
/-- the static row of limits: sort 99 -/
theorem g_lim {idx : Nat} (ok : MOk X M cc nL fr lo own) (hd : decode cc pc = .ok (.getstatic idx, 3)) (hw : Cond.fieldLink own idx RX7 "PRICE_LIMITS" "[I" ∈ Wds)
    (kk : G X M cc nL σ (pc + 3) ls (.inr (.inr (99, 0)) :: st)) : G X M cc nL σ pc ls st := by
  obtain ⟨p, l, e, R, s, m, args, below, meth, c, Q⟩ := M
  obtain ⟨hx, hb, hml, hown, hts, hK, hfr, hlo⟩ := ok
  intro H locs la hM hR hS hl
  exact va_gets hx hb hK.2.2.1 hS hown (hts _ hw) (fun _ h => h) hd (kk H locs la hM hR hS hl)
theorem g_limN (ok : MOk X M cc nL fr lo RX6) (hd : decode cc pc = .ok (.getstatic 32, 3))
    (kk : G X M cc nL σ (pc + 3) ls (.inr (.inr (99, 0)) :: st)) : G X M cc nL σ pc ls st := by
  obtain ⟨p, l, e, R, s, m, args, below, meth, c, Q⟩ := M
  obtain ⟨hx, hb, hml, hown, hts, hK, hfr, hlo⟩ := ok
  intro H locs la hM hR hS hl
  exact va_getsN hx hb hK.2.2.1 hS hown (va_Nw.use (w := nestF) rfl hK.2.2.2.2.2) (fun _ h => h) hd (kk H locs la hM hR hS hl)
theorem g_limLen (ok : MOk X M cc nL fr lo own) (hd : decode cc pc = .ok (.arraylength, 1))
    (kk : G X M cc nL σ (pc + 1) ls (.inl 3 :: st)) : G X M cc nL σ pc ls (.inr (.inr (99, 0)) :: st) := by
  obtain ⟨p, l, e, R, s, m, args, below, meth, c, Q⟩ := M
  obtain ⟨hx, hb, hml, hown, hts, hK, hfr, hlo⟩ := ok
  intro H locs la hM hR hS hl
  exact va_tlen hx hb hK.2.2.2.1 hS (v := iI 3) (by decide +kernel) hd (kk H locs la hM hR hS hl)
def limZ (w : Int) : Int := if w = 0 then 100 else if w = 1 then 1000 else 10000
theorem g_limAt {z : Int} (ok : MOk X M cc nL fr lo own) (hd : decode cc pc = .ok (.iaload, 1)) (hz : 0 ≤ z ∧ z < 3)
    (kk : G X M cc nL σ (pc + 1) ls (.inl (limZ z) :: st)) : G X M cc nL σ pc ls (.inl z :: .inr (.inr (99, 0)) :: st) := by
  obtain ⟨p, l, e, R, s, m, args, below, meth, c, Q⟩ := M
  obtain ⟨hx, hb, hml, hown, hts, hK, hfr, hlo⟩ := ok
  intro H locs la hM hR hS hl
  refine va_ti (i := iI z) hx hb hK.2.2.2.1 hS (iI_in hz.1 hz.2 (by decide)) ?_ hd (kk H locs la hM hR hS hl)
  rcases (show z = 0 ∨ z = 1 ∨ z = 2 by omega) with rfl | rfl | rfl
  · exact (by decide +kernel : limF (iI 0).toNatClampNeg = Value.int (iI (limZ 0)))
  · exact (by decide +kernel : limF (iI 1).toNatClampNeg = Value.int (iI (limZ 1)))
  · exact (by decide +kernel : limF (iI 2).toNatClampNeg = Value.int (iI (limZ 2)))
/-- ends -/
theorem g_iret {v : Int} {post : Option AV → Mm → Prop} (ok : MOk X M cc nL fr lo own) (hq : RQ X M post (some .int)) (hd : decode cc pc = .ok (.ireturn, 1)) (hp : post (some (.inl v)) σ) : G X M cc nL σ pc ls [.inl v] := by
  obtain ⟨p, l, e, R, s, m, args, below, meth, c, Q⟩ := M
  obtain ⟨hx, hb, hml, hown, hts, hK, hfr, hlo⟩ := ok
  obtain ⟨rfl, hr, hlk⟩ := hq
  intro H locs la hM hR hS hl
  exact W.iret (v := iI v) hx hb hr (fun t ht hW => ⟨some (.inl v), σ, rfl, hp, by rw [ht]; exact hM, hR, hS.F ht⟩) hS.2.2 hd hlk
theorem g_zret {v : Int} {post : Option AV → Mm → Prop} (ok : MOk X M cc nL fr lo own) (hq : RQ X M post (some .boolean)) (hd : decode cc pc = .ok (.ireturn, 1)) (h0 : 0 ≤ v) (h1 : v ≤ 1) (hp : post (some (.inl v)) σ) : G X M cc nL σ pc ls [.inl v] := by
  obtain ⟨p, l, e, R, s, m, args, below, meth, c, Q⟩ := M
  obtain ⟨hx, hb, hml, hown, hts, hK, hfr, hlo⟩ := ok
  obtain ⟨rfl, hr, hlk⟩ := hq
  intro H locs la hM hR hS hl
  exact W.zret (v := iI v) hx hb hr (nar_b h0 h1).1 (fun t ht hW => ⟨some (.inl v), σ, rfl, hp, by rw [ht]; exact hM, hR, hS.F ht⟩) hS.2.2 hd hlk
theorem g_lret {v : Int} {post : Option AV → Mm → Prop} (ok : MOk X M cc nL fr lo own) (hq : RQ X M post (some .long)) (hd : decode cc pc = .ok (.lreturn, 1)) (hp : post (some (.inr (.inl v))) σ) : G X M cc nL σ pc ls [.inr (.inl v)] := by
  obtain ⟨p, l, e, R, s, m, args, below, meth, c, Q⟩ := M
  obtain ⟨hx, hb, hml, hown, hts, hK, hfr, hlo⟩ := ok
  obtain ⟨rfl, hr, hlk⟩ := hq
  intro H locs la hM hR hS hl
  exact W.lret (v := lI v) hx hb hr (fun t ht hW => ⟨some (.inr (.inl v)), σ, rfl, hp, by rw [ht]; exact hM, hR, hS.F ht⟩) hS.2.2 hd hlk
theorem g_vret {post : Option AV → Mm → Prop} (ok : MOk X M cc nL fr lo own) (hq : RQ X M post none) (hd : decode cc pc = .ok (.return_, 1)) (hp : post none σ) : G X M cc nL σ pc ls [] := by
  obtain ⟨p, l, e, R, s, m, args, below, meth, c, Q⟩ := M
  obtain ⟨hx, hb, hml, hown, hts, hK, hfr, hlo⟩ := ok
  obtain ⟨rfl, hr, hlk⟩ := hq
  intro H locs la hM hR hS hl
  exact W.vret hx hb hr (fun t ht hW => ⟨none, σ, rfl, hp, by rw [ht]; exact hM, hR, hS.F ht⟩) hS.2.2 hd hlk
end HEAP
end
section
/-! calls -/
theorem Kn.same {X : XW} {U V : State} (hv : V.vm = U.vm) (hh : V.heap = U.heap) (h : Kn X U) : Kn X V := by
  obtain ⟨h1, h2, h3, h4, h5, h6⟩ := h
  have ha : U.vm.Alike V.vm := by rw [hv]; exact Vm.Alike.refl _
  refine ⟨va_K.moved ha h1, h2, ?_, ?_, ?_, va_Nw.same rfl hv.symm h6⟩
  · rw [hh]; exact h3.moved ha
  · rw [hh]; exact h4.moved ha
  · intro w hw
    have hz := h5 w hw
    simp only [nestW, List.mem_cons, List.not_mem_nil, or_false] at hw
    rcases hw with rfl | rfl | rfl | rfl <;> exact va_Nw.same rfl hv.symm hz
theorem Wo_blind (X : XW) (σ : Mm) (av : List Value) : FrameBlind (va_Pc av (Wo X σ)) := by
  intro a U g mk h
  obtain ⟨h1, h2, h3, h4⟩ := h
  exact ⟨h1, h2, h3, Kn.same (U := U) (V := U.calling g mk a) rfl rfl h4⟩
/-- the words of a call: its link, its code -/
def MB (own : String) (idx : Nat) (y : MethodName) (cb : ByteArray) (mL : Nat) (ret : Option FieldType) (n : Nat) : Prop := Cond.methodLink own idx y ∈ Wds ∧ Cond.code y cb mL ret ∈ Wds ∧ Cond.initialized y.cls ∈ Wds ∧ y.cls ≠ "java/lang/invoke/MethodHandle" ∧ y.cls ≠ "java/lang/invoke/VarHandle" ∧ (parseMethodDescriptor y.desc).map (fun d => d.parameters.length) = some n
def MV (own : String) (idx : Nat) (y : MethodName) (cb : ByteArray) (mL : Nat) (ret : Option FieldType) (n : Nat) : Prop := MB own idx y cb mL ret n ∧ Cond.instanceMethod y ∈ Wds ∧ Cond.selects y.cls y y ∈ Wds
def MS (own : String) (idx : Nat) (y : MethodName) (cb : ByteArray) (mL : Nat) (ret : Option FieldType) (n : Nat) : Prop := MB own idx y cb mL ret n ∧ Cond.static y ∈ Wds
def MN (own : String) (idx : Nat) (y : MethodName) (cb : ByteArray) (mL : Nat) (ret : Option FieldType) (n : Nat) : Prop := Cond.methodLinkNest own idx y RX7 ∈ nestW ∧ Cond.code y cb mL ret ∈ Wds ∧ Cond.initialized y.cls ∈ Wds ∧ (y.cls ≠ "java/lang/invoke/MethodHandle" ∧ y.cls ≠ "java/lang/invoke/VarHandle" ∧ (parseMethodDescriptor y.desc).map (fun d => d.parameters.length) = some n) ∧ Cond.static y ∈ Wds
theorem good_cons {y : MethodName} {cb : ByteArray} {mL : Nat} {ret : Option FieldType} (h : Cond.code y cb mL ret ∈ Wds) : GoodIn Wds (.code y cb mL ret :: Wds) := by
  intro w hw
  rcases List.mem_cons.mp hw with rfl | hw
  · exact ⟨h, Wds_good h⟩
  · exact ⟨hw, Wds_good hw⟩
theorem MB.callB {own : String} {idx : Nat} {y : MethodName} {cb : ByteArray} {mL : Nat} {ret : Option FieldType} {n : Nat} (h : MB own idx y cb mL ret n) {R : Room} {s : State} {args : Array Value} (hts : ∀ w ∈ Wds, w.before args s = true) {fr lo : Nat} (hR : fr + 1 ≤ R.frames ∧ 8 + (mL + 11) + lo ≤ R.locals) :
    CallB R s args own idx y cb mL ret (.code y cb mL ret :: Wds) ({ frames := fr, cells := 0, slots := 0, locals := lo }) 0 0 n :=
  callB_of n hts (good_cons h.2.1) rfl rfl rfl (hts _ h.2.2.1) (hts _ h.1) h.2.2.2 hR
def catS : List AV → Nat
  | [] => 0
  | v :: r => cA v + catS r
theorem catS_eq (X : XW) : ∀ st : List AV, ((st.map (tv X)).map fun v => v.category).sum = catS st
  | [] => rfl
  | v :: r => by
    rw [List.map_cons, List.map_cons, List.sum_cons, catS_eq X r, tv_cat]
    rfl
section CALLS
variable {X : XW} {M : MX} {cc : ByteArray} {nL fr lo : Nat} {own : String} {σ : Mm} {pc : Nat} {ls : List (Nat × AV)} {st : List AV}
theorem run_W {p : Program} {l : Launch} {e : Env} {R : Room} {s : State} {m : MethodId} {args : Array Value} {below : List Frame} {meth : Method} {c : Code} {H : Heap} {locs : List Loc} {Q : State → Prop} {la : Array Slot} {st0 rest : List Value} {post : Option AV → Mm → Prop} {a : Array Value}
    (hr : va_Run p l e R s m args below meth c H locs 0 0 0 0 (F0 m pc la st0) rest (Qo X post a) (Apl X)) (hS : va_S (Apl X) s.heap H locs)
    (kk : ∀ (r : Option AV) (σ' : Mm) (H1 : Heap) (locs1 : List Loc), post r σ' → Mem X σ' H1 → Rg σ' → va_S (Apl X) s.heap H1 locs1 → W p l e R s m args below meth c H1 locs1 0 0 Q (F0 m (pc + 3) la ((r.map (tv X)).toList ++ rest))) : W p l e R s m args below meth c H locs 0 0 Q (F0 m pc la st0) := by
  intro T hT X0
  obtain ⟨v, st₀, t, T', L, h0, X', hL, e1, e2, ⟨r, σ', hv, hp, hM1, hR1, hz, hk⟩, st⟩ := hr T hT X0
  have hv' : v = r.map (tv X) := by cases hv; rfl
  subst hv'
  rw [h0] at hz hk
  obtain ⟨t2, a1, b1⟩ := kk r σ' T'.heap (locs ++ L) hp (by rw [e1]; exact hM1) hR1
    ⟨Nat.le_trans hS.1 (by rw [e1]; exact hz), fun q h1 h2 => by rw [e1, hk q (Nat.lt_of_lt_of_le h1 hS.1) h2]; exact hS.2.1 q h1 h2, fun q hq => by
      rcases List.mem_append.mp hq with h | h
      · exact hS.2.2 q h
      · exact hL q h⟩ T' rfl X'
  exact ⟨t2, st t2 a1, b1⟩
theorem map_opt (X : XW) (r : Option AV) (rest : List AV) : (r.toList ++ rest).map (tv X) = (r.map (tv X)).toList ++ rest.map (tv X) := by
  cases r <;> simp
theorem map_stk (X : XW) {st av rest : List AV} (h : st = av.reverse ++ rest) : st.map (tv X) = (av.map (tv X)).reverse ++ rest.map (tv X) := by
  rw [h, List.map_append, List.map_reverse]
theorem g_callV {idx : Nat} {y : MethodName} {cb : ByteArray} {mL n fr2 lo2 a ci N : Nat} {ret : Option FieldType} {i : Int} {av rest : List AV} {fs : List Value} {T : u_T} {post : Option AV → Mm → Prop} (ok : MOk X M cc nL fr lo own) (hd : decode cc pc = .ok (.invokevirtual idx, 3)) (hw : MV own idx y cb mL ret n) (ct : Ct X M.2.1 y cb mL ret fr2 lo2 σ (.inr (.inr (a, i)) :: av) post)
    (hv : Vd a i) (he : encF X a i (σ a i) = .inr (ci, fs)) (hc : vwCl[ci]? = some (y.cls, T, N)) (hf : fr2 + 1 ≤ fr ∧ 8 + (mL + 11) + lo2 ≤ lo) (hn : av.length = n) (hst : st = av.reverse ++ .inr (.inr (a, i)) :: rest) (h8 : catS rest ≤ 8)
    (kk : ∀ (r : Option AV) (σ' : Mm), post r σ' → G X M cc nL σ' (pc + 3) ls (r.toList ++ rest)) : G X M cc nL σ pc ls st := by
  obtain ⟨p, l, e, R, s, m, args, below, meth, c, Q⟩ := M
  obtain ⟨hx, hb, hml, hown, hts, hK, hfr, hlo⟩ := ok
  intro H locs la hM hR hS hl
  refine run_W (rest := rest.map (tv X)) (va_runV (C := y.cls) (b := X.1 a i) (As := av.map (tv X)) (rest := rest.map (tv X)) ⟨hx, hb, hml, hown, hts⟩ ct ⟨hw.1.callB hts (by rw [hfr, hlo]; exact hf), hts _ hw.2.1, hts _ hw.2.2⟩ ⟨Wo_blind X σ _, ?_, fun U hU hW => ⟨rfl, by rw [hU]; exact hM, hR, hK.moved hW hU hS⟩⟩ rfl (by rw [List.length_map]; exact hn) hl.1 ?_ ?_ hd ⟨Nat.zero_le _, Nat.zero_le _⟩) hS ?_
  · have := va_recv hK.1 (hM.one hv) hc (q0 := 0) (by rw [he]; rfl)
    exact this
  · have := map_stk X hst
    rw [List.map_cons] at this
    exact this
  · refine lv_room ?_
    rw [catS_eq]
    exact h8
  · intro r σ' H1 locs1 hp hM1 hR1 hS1
    rw [← map_opt]
    exact kk r σ' hp H1 locs1 la hM1 hR1 hS1 hl
theorem g_callS {idx : Nat} {y : MethodName} {cb : ByteArray} {mL n fr2 lo2 : Nat} {ret : Option FieldType} {av rest : List AV} {post : Option AV → Mm → Prop} (ok : MOk X M cc nL fr lo own) (hd : decode cc pc = .ok (.invokestatic idx, 3)) (hw : MS own idx y cb mL ret n) (ct : Ct X M.2.1 y cb mL ret fr2 lo2 σ av post)
    (hf : fr2 + 1 ≤ fr ∧ 8 + (mL + 11) + lo2 ≤ lo) (hn : av.length = n) (hst : st = av.reverse ++ rest) (h8 : catS rest ≤ 8)
    (kk : ∀ (r : Option AV) (σ' : Mm), post r σ' → G X M cc nL σ' (pc + 3) ls (r.toList ++ rest)) : G X M cc nL σ pc ls st := by
  obtain ⟨p, l, e, R, s, m, args, below, meth, c, Q⟩ := M
  obtain ⟨hx, hb, hml, hown, hts, hK, hfr, hlo⟩ := ok
  intro H locs la hM hR hS hl
  refine run_W (rest := rest.map (tv X)) (va_runS (As := av.map (tv X)) (rest := rest.map (tv X)) ⟨hx, hb, hml, hown, hts⟩ ct ⟨hw.1.callB hts (by rw [hfr, hlo]; exact hf), hts _ hw.2⟩ ⟨Wo_blind X σ _, fun U hU hW => ⟨rfl, by rw [hU]; exact hM, hR, hK.moved hW hU hS⟩⟩ rfl (by rw [List.length_map]; exact hn) hl.1 (map_stk X hst) ?_ hd ⟨Nat.zero_le _, Nat.zero_le _⟩) hS ?_
  · refine lv_room ?_
    rw [catS_eq]
    exact h8
  · intro r σ' H1 locs1 hp hM1 hR1 hS1
    rw [← map_opt]
    exact kk r σ' hp H1 locs1 la hM1 hR1 hS1 hl
theorem g_callN {idx : Nat} {y : MethodName} {cb : ByteArray} {mL n fr2 lo2 : Nat} {ret : Option FieldType} {av rest : List AV} {post : Option AV → Mm → Prop} (ok : MOk X M cc nL fr lo own) (hd : decode cc pc = .ok (.invokestatic idx, 3)) (hw : MN own idx y cb mL ret n) (ct : Ct X M.2.1 y cb mL ret fr2 lo2 σ av post)
    (hf : fr2 + 1 ≤ fr ∧ 8 + (mL + 11) + lo2 ≤ lo) (hn : av.length = n) (hst : st = av.reverse ++ rest) (h8 : catS rest ≤ 8)
    (kk : ∀ (r : Option AV) (σ' : Mm), post r σ' → G X M cc nL σ' (pc + 3) ls (r.toList ++ rest)) : G X M cc nL σ pc ls st := by
  obtain ⟨p, l, e, R, s, m, args, below, meth, c, Q⟩ := M
  obtain ⟨hx, hb, hml, hown, hts, hK, hfr, hlo⟩ := ok
  intro H locs la hM hR hS hl
  refine run_W (rest := rest.map (tv X)) (va_runSN (As := av.map (tv X)) (rest := rest.map (tv X)) ⟨hx, hb, hml, hown, hts⟩ ct ⟨va_cnB n hts (good_cons hw.2.1) rfl rfl rfl (hK.2.2.2.2.1 _ hw.1) (hts _ hw.2.2.1) hw.2.2.2.1 (by rw [hfr, hlo]; exact hf), hts _ hw.2.2.2.2, trivial⟩ ⟨Wo_blind X σ _, fun U hU hW => ⟨rfl, by rw [hU]; exact hM, hR, hK.moved hW hU hS⟩⟩ rfl (by rw [List.length_map]; exact hn) hl.1 (map_stk X hst) ?_ hd ⟨Nat.zero_le _, Nat.zero_le _⟩) hS ?_
  · refine lv_room ?_
    rw [catS_eq]
    exact h8
  · intro r σ' H1 locs1 hp hM1 hR1 hS1
    rw [← map_opt]
    exact kk r σ' hp H1 locs1 la hM1 hR1 hS1 hl
/-- an answer and a memory as functions say -/
def Ans (r : Option AV) (σ : Mm) : Option AV → Mm → Prop := fun r' σ' => r' = r ∧ σ' = σ
/-- Math's -/
theorem g_max {idx : Nat} {a b : Int} (ok : MOk X M cc nL fr lo own) (hd : decode cc pc = .ok (.invokestatic idx, 3)) (hw : Cond.methodLink own idx Lib.Math.max.name ∈ Wds) (w1 : Cond.static Lib.Math.max.name ∈ Wds) (w2 : Cond.initialized "java/lang/Math" ∈ Wds) (w3 : Cond.code Lib.Math.max.name Lib.Math.max.code 2 (some .int) ∈ Wds) (hf : 1 ≤ fr ∧ catS st + 13 ≤ lo) (ra : R32 a) (rb : R32 b)
    (kk : G X M cc nL σ (pc + 3) ls (.inl (max a b) :: st)) : G X M cc nL σ pc ls (.inl b :: .inl a :: st) := by
  obtain ⟨p, l, e, R, s, m, args, below, meth, c, Q⟩ := M
  obtain ⟨hx, hb, hml, hown, hts, hK, hfr, hlo⟩ := ok
  intro H locs la hM hR hS hl
  have k := kk H locs la hM hR hS hl
  refine va_mmax (x := iI a) (y := iI b) hx hb (hml.trans hl.1.symm) hown (hts _ hw) (hts _ w1) (hts _ w2) (hts _ w3) (by rw [hfr]; exact hf.1) (by rw [hlo, catS_eq]; exact hf.2) (Nat.zero_le _) (Nat.zero_le _) hd ?_
  have e1 : (if iI a < iI b then iI b else iI a) = iI (max a b) := by
    by_cases h : a < b
    · rw [if_pos ((iI_lt ra rb).mpr h), Int.max_eq_right (by omega)]
    · rw [if_neg (fun z => h ((iI_lt ra rb).mp z)), Int.max_eq_left (by omega)]
  rw [e1]
  exact k
theorem g_min {idx : Nat} {a b : Int} (ok : MOk X M cc nL fr lo own) (hd : decode cc pc = .ok (.invokestatic idx, 3)) (hw : Cond.methodLink own idx Lib.Math.min.name ∈ Wds) (w1 : Cond.static Lib.Math.min.name ∈ Wds) (w2 : Cond.initialized "java/lang/Math" ∈ Wds) (w3 : Cond.code Lib.Math.min.name Lib.Math.min.code 2 (some .int) ∈ Wds) (hf : 1 ≤ fr ∧ catS st + 13 ≤ lo) (ra : R32 a) (rb : R32 b)
    (kk : G X M cc nL σ (pc + 3) ls (.inl (min a b) :: st)) : G X M cc nL σ pc ls (.inl b :: .inl a :: st) := by
  obtain ⟨p, l, e, R, s, m, args, below, meth, c, Q⟩ := M
  obtain ⟨hx, hb, hml, hown, hts, hK, hfr, hlo⟩ := ok
  intro H locs la hM hR hS hl
  have k := kk H locs la hM hR hS hl
  have e1 : iI (min a b) = (if iI a < iI b then iI a else iI b) := by
    by_cases h : a < b
    · rw [if_pos ((iI_lt ra rb).mpr h), Int.min_eq_left (by omega)]
    · rw [if_neg (fun z => h ((iI_lt ra rb).mp z)), Int.min_eq_right (by omega)]
  have e2 : iI (min a b) = (if iI b < iI a then iI b else iI a) := by
    by_cases h : b < a
    · rw [if_pos ((iI_lt rb ra).mpr h), Int.min_eq_right (by omega)]
    · rw [if_neg (fun z => h ((iI_lt rb ra).mp z)), Int.min_eq_left (by omega)]
  have e3 : iI (min a b) = (if iI a ≤ iI b then iI a else iI b) := by
    by_cases h : a ≤ b
    · rw [if_pos ((iI_le ra rb).mpr h), Int.min_eq_left (by omega)]
    · rw [if_neg (fun z => h ((iI_le ra rb).mp z)), Int.min_eq_right (by omega)]
  refine va_mmin (x := iI a) (y := iI b) hx hb (hml.trans hl.1.symm) hown (hts _ hw) (hts _ w1) (hts _ w2) (hts _ w3) (by rw [hfr]; exact hf.1) (by rw [hlo, catS_eq]; exact hf.2) (Nat.zero_le _) (Nat.zero_le _) hd ?_
  first | (rw [← e1]; exact k) | (rw [← e2]; exact k) | (rw [← e3]; exact k)
theorem g_abs {idx : Nat} {a : Int} (ok : MOk X M cc nL fr lo own) (hd : decode cc pc = .ok (.invokestatic idx, 3)) (hw : Cond.methodLink own idx Lib.Math.abs.name ∈ Wds) (w1 : Cond.static Lib.Math.abs.name ∈ Wds) (w2 : Cond.initialized "java/lang/Math" ∈ Wds) (w3 : Cond.code Lib.Math.abs.name Lib.Math.abs.code 1 (some .int) ∈ Wds) (hf : 1 ≤ fr ∧ catS st + 13 ≤ lo) (ra : R32 a)
    (kk : G X M cc nL σ (pc + 3) ls (.inl (if 0 ≤ a then a else 0 - a) :: st)) : G X M cc nL σ pc ls (.inl a :: st) := by
  obtain ⟨p, l, e, R, s, m, args, below, meth, c, Q⟩ := M
  obtain ⟨hx, hb, hml, hown, hts, hK, hfr, hlo⟩ := ok
  intro H locs la hM hR hS hl
  have k := kk H locs la hM hR hS hl
  refine va_mabs (x := iI a) hx hb (hml.trans hl.1.symm) hown (hts _ hw) (hts _ w1) (hts _ w2) (hts _ w3) (by rw [hfr]; exact hf.1) (by rw [hlo, catS_eq]; exact hf.2) (Nat.zero_le _) (Nat.zero_le _) hd ?_
  have e1 : (if 0 ≤ iI a then iI a else 0 - iI a) = iI (if 0 ≤ a then a else 0 - a) := by
    by_cases h : 0 ≤ a
    · rw [if_pos (by rw [← iI_0]; exact (iI_le r0 ra).mpr h), if_pos h]
    · rw [if_neg (fun z => h ((iI_le r0 ra).mp (by rw [iI_0]; exact z))), if_neg h, ← iI_0, iI_sub]
  rw [e1]
  exact k
theorem g_minL {idx : Nat} {a b : Int} (ok : MOk X M cc nL fr lo own) (hd : decode cc pc = .ok (.invokestatic idx, 3)) (hw : Cond.methodLink own idx Lib.MathLoose.min_long.x ∈ Wds) (w1 : Cond.static Lib.MathLoose.min_long.x ∈ Wds) (w2 : Cond.initialized "java/lang/Math" ∈ Wds) (w3 : Cond.code Lib.MathLoose.min_long.x Lib.MathLoose.min_long.code 4 (some .long) ∈ Wds) (hf : 1 ≤ fr ∧ catS st + 15 ≤ lo) (ra : R64 a) (rb : R64 b)
    (kk : G X M cc nL σ (pc + 3) ls (.inr (.inl (min a b)) :: st)) : G X M cc nL σ pc ls (.inr (.inl b) :: .inr (.inl a) :: st) := by
  obtain ⟨p, l, e, R, s, m, args, below, meth, c, Q⟩ := M
  obtain ⟨hx, hb, hml, hown, hts, hK, hfr, hlo⟩ := ok
  intro H locs la hM hR hS hl
  have k := kk H locs la hM hR hS hl
  have e1 : lI (min a b) = (if lI a < lI b then lI a else lI b) := by
    by_cases h : a < b
    · rw [if_pos ((lI_lt ra rb).mpr h), Int.min_eq_left (by omega)]
    · rw [if_neg (fun z => h ((lI_lt ra rb).mp z)), Int.min_eq_right (by omega)]
  have e2 : lI (min a b) = (if lI b < lI a then lI b else lI a) := by
    by_cases h : b < a
    · rw [if_pos ((lI_lt rb ra).mpr h), Int.min_eq_right (by omega)]
    · rw [if_neg (fun z => h ((lI_lt rb ra).mp z)), Int.min_eq_left (by omega)]
  have e3 : lI (min a b) = (if lI a ≤ lI b then lI a else lI b) := by
    by_cases h : a ≤ b
    · rw [if_pos ((lI_le ra rb).mpr h), Int.min_eq_left (by omega)]
    · rw [if_neg (fun z => h ((lI_le ra rb).mp z)), Int.min_eq_right (by omega)]
  refine va_mmin_long (x := lI a) (y := lI b) hx hb (hml.trans hl.1.symm) hown (hts _ hw) (hts _ w1) (hts _ w2) (hts _ w3) (by rw [hfr]; exact hf.1) (by rw [hlo, catS_eq]; exact hf.2) (Nat.zero_le _) (Nat.zero_le _) hd ?_
  first | (rw [← e1]; exact k) | (rw [← e2]; exact k) | (rw [← e3]; exact k)
end CALLS
/-! calls with an answer and a memory as functions say -/
theorem ansI {v v' : Int} {σ σ' : Mm} (h : v = v') (hs : σ = σ') : Ans (some (.inl v')) σ' (some (.inl v)) σ := by subst h; subst hs; exact ⟨rfl, rfl⟩
theorem ansL {v v' : Int} {σ σ' : Mm} (h : v = v') (hs : σ = σ') : Ans (some (.inr (.inl v'))) σ' (some (.inr (.inl v))) σ := by subst h; subst hs; exact ⟨rfl, rfl⟩
theorem ansV {σ σ' : Mm} (hs : σ = σ') : Ans none σ' none σ := by subst hs; exact ⟨rfl, rfl⟩
section CALLF
variable {X : XW} {M : MX} {cc : ByteArray} {nL fr lo : Nat} {own : String} {σ σ' : Mm} {pc : Nat} {ls : List (Nat × AV)} {st : List AV}
theorem g_cV {idx : Nat} {y : MethodName} {cb : ByteArray} {mL n fr2 lo2 a ci N : Nat} {ret : Option FieldType} {i : Int} {av rest : List AV} {fs : List Value} {T : u_T} {v : AV} (ok : MOk X M cc nL fr lo own) (hd : decode cc pc = .ok (.invokevirtual idx, 3)) (hw : MV own idx y cb mL ret n) (ct : Ct X M.2.1 y cb mL ret fr2 lo2 σ (.inr (.inr (a, i)) :: av) (Ans (some v) σ'))
    (hst : st = av.reverse ++ .inr (.inr (a, i)) :: rest) (hv : Vd a i) (he : encF X a i (σ a i) = .inr (ci, fs)) (hc : vwCl[ci]? = some (y.cls, T, N)) (hf : fr2 + 1 ≤ fr ∧ 8 + (mL + 11) + lo2 ≤ lo) (hn : av.length = n) (h8 : catS rest ≤ 8)
    (kk : G X M cc nL σ' (pc + 3) ls (v :: rest)) : G X M cc nL σ pc ls st :=
  g_callV ok hd hw ct hv he hc hf hn hst h8 (fun r s h => by obtain ⟨rfl, rfl⟩ := h; exact kk)
theorem g_cV0 {idx : Nat} {y : MethodName} {cb : ByteArray} {mL n fr2 lo2 a ci N : Nat} {ret : Option FieldType} {i : Int} {av rest : List AV} {fs : List Value} {T : u_T} (ok : MOk X M cc nL fr lo own) (hd : decode cc pc = .ok (.invokevirtual idx, 3)) (hw : MV own idx y cb mL ret n) (ct : Ct X M.2.1 y cb mL ret fr2 lo2 σ (.inr (.inr (a, i)) :: av) (Ans none σ'))
    (hst : st = av.reverse ++ .inr (.inr (a, i)) :: rest) (hv : Vd a i) (he : encF X a i (σ a i) = .inr (ci, fs)) (hc : vwCl[ci]? = some (y.cls, T, N)) (hf : fr2 + 1 ≤ fr ∧ 8 + (mL + 11) + lo2 ≤ lo) (hn : av.length = n) (h8 : catS rest ≤ 8)
    (kk : G X M cc nL σ' (pc + 3) ls rest) : G X M cc nL σ pc ls st :=
  g_callV ok hd hw ct hv he hc hf hn hst h8 (fun r s h => by obtain ⟨rfl, rfl⟩ := h; exact kk)
theorem g_cS {idx : Nat} {y : MethodName} {cb : ByteArray} {mL n fr2 lo2 : Nat} {ret : Option FieldType} {av rest : List AV} {v : AV} (ok : MOk X M cc nL fr lo own) (hd : decode cc pc = .ok (.invokestatic idx, 3)) (hw : MS own idx y cb mL ret n) (ct : Ct X M.2.1 y cb mL ret fr2 lo2 σ av (Ans (some v) σ'))
    (hst : st = av.reverse ++ rest) (hf : fr2 + 1 ≤ fr ∧ 8 + (mL + 11) + lo2 ≤ lo) (hn : av.length = n) (h8 : catS rest ≤ 8)
    (kk : G X M cc nL σ' (pc + 3) ls (v :: rest)) : G X M cc nL σ pc ls st :=
  g_callS ok hd hw ct hf hn hst h8 (fun r s h => by obtain ⟨rfl, rfl⟩ := h; exact kk)
theorem g_cS0 {idx : Nat} {y : MethodName} {cb : ByteArray} {mL n fr2 lo2 : Nat} {ret : Option FieldType} {av rest : List AV} (ok : MOk X M cc nL fr lo own) (hd : decode cc pc = .ok (.invokestatic idx, 3)) (hw : MS own idx y cb mL ret n) (ct : Ct X M.2.1 y cb mL ret fr2 lo2 σ av (Ans none σ'))
    (hst : st = av.reverse ++ rest) (hf : fr2 + 1 ≤ fr ∧ 8 + (mL + 11) + lo2 ≤ lo) (hn : av.length = n) (h8 : catS rest ≤ 8)
    (kk : G X M cc nL σ' (pc + 3) ls rest) : G X M cc nL σ pc ls st :=
  g_callS ok hd hw ct hf hn hst h8 (fun r s h => by obtain ⟨rfl, rfl⟩ := h; exact kk)
theorem g_cN {idx : Nat} {y : MethodName} {cb : ByteArray} {mL n fr2 lo2 : Nat} {ret : Option FieldType} {av rest : List AV} {v : AV} (ok : MOk X M cc nL fr lo own) (hd : decode cc pc = .ok (.invokestatic idx, 3)) (hw : MN own idx y cb mL ret n) (ct : Ct X M.2.1 y cb mL ret fr2 lo2 σ av (Ans (some v) σ'))
    (hst : st = av.reverse ++ rest) (hf : fr2 + 1 ≤ fr ∧ 8 + (mL + 11) + lo2 ≤ lo) (hn : av.length = n) (h8 : catS rest ≤ 8)
    (kk : G X M cc nL σ' (pc + 3) ls (v :: rest)) : G X M cc nL σ pc ls st :=
  g_callN ok hd hw ct hf hn hst h8 (fun r s h => by obtain ⟨rfl, rfl⟩ := h; exact kk)
end CALLF
end
section
theorem inw0 : ∀ w ∈ u_ws RX0 TX0 13, w ∈ Wds := by
  intro w hw
  obtain ⟨k, hk, rfl⟩ := List.mem_map.mp hw
  rw [List.mem_range] at hk
  match k, hk with
  | 0, _ => exact wd1_112
  | 1, _ => exact wd1_114
  | 2, _ => exact wd1_116
  | 3, _ => exact wd1_118
  | 4, _ => exact wd1_120
  | 5, _ => exact wd1_122
  | 6, _ => exact wd1_124
  | 7, _ => exact wd1_126
  | 8, _ => exact wd1_128
  | 9, _ => exact wd1_130
  | 10, _ => exact wd1_132
  | 11, _ => exact wd1_134
  | 12, _ => exact wd1_136
  | k + 13, h => exact absurd h (by omega)
theorem inw1 : ∀ w ∈ u_ws RX1 TX1 5, w ∈ Wds := by
  intro w hw
  obtain ⟨k, hk, rfl⟩ := List.mem_map.mp hw
  rw [List.mem_range] at hk
  match k, hk with
  | 0, _ => exact wd1_189
  | 1, _ => exact wd1_191
  | 2, _ => exact wd1_193
  | 3, _ => exact wd1_195
  | 4, _ => exact wd1_197
  | k + 5, h => exact absurd h (by omega)
theorem inw2 : ∀ w ∈ u_ws RX2 TX2 6, w ∈ Wds := by
  intro w hw
  obtain ⟨k, hk, rfl⟩ := List.mem_map.mp hw
  rw [List.mem_range] at hk
  match k, hk with
  | 0, _ => exact wd1_229
  | 1, _ => exact wd1_231
  | 2, _ => exact wd1_233
  | 3, _ => exact wd1_235
  | 4, _ => exact wd1_237
  | 5, _ => exact wd1_239
  | k + 6, h => exact absurd h (by omega)
theorem inw3 : ∀ w ∈ u_ws RX3 TX3 3, w ∈ Wds := by
  intro w hw
  obtain ⟨k, hk, rfl⟩ := List.mem_map.mp hw
  rw [List.mem_range] at hk
  match k, hk with
  | 0, _ => exact wd1_36
  | 1, _ => exact wd1_38
  | 2, _ => exact wd1_40
  | k + 3, h => exact absurd h (by omega)
theorem inw4 : ∀ w ∈ u_ws RX4 TX4 1, w ∈ Wds := by
  intro w hw
  obtain ⟨k, hk, rfl⟩ := List.mem_map.mp hw
  rw [List.mem_range] at hk
  match k, hk with
  | 0, _ => exact wd1_211
  | k + 1, h => exact absurd h (by omega)
theorem inw5 : ∀ w ∈ u_ws RX5 TX5 10, w ∈ Wds := by
  intro w hw
  obtain ⟨k, hk, rfl⟩ := List.mem_map.mp hw
  rw [List.mem_range] at hk
  match k, hk with
  | 0, _ => exact wd1_155
  | 1, _ => exact wd1_157
  | 2, _ => exact wd1_159
  | 3, _ => exact wd1_161
  | 4, _ => exact wd1_163
  | 5, _ => exact wd1_165
  | 6, _ => exact wd1_167
  | 7, _ => exact wd1_169
  | 8, _ => exact wd1_171
  | 9, _ => exact wd1_173
  | k + 10, h => exact absurd h (by omega)
theorem inw6 : ∀ w ∈ u_ws RX6 TX6 4, w ∈ Wds := by
  intro w hw
  obtain ⟨k, hk, rfl⟩ := List.mem_map.mp hw
  rw [List.mem_range] at hk
  match k, hk with
  | 0, _ => exact wd1_60
  | 1, _ => exact wd1_62
  | 2, _ => exact wd1_64
  | 3, _ => exact wd1_66
  | k + 4, h => exact absurd h (by omega)
theorem inw7 : ∀ w ∈ u_ws RX7 TX7 7, w ∈ Wds := by
  intro w hw
  obtain ⟨k, hk, rfl⟩ := List.mem_map.mp hw
  rw [List.mem_range] at hk
  match k, hk with
  | 0, _ => exact wd2_9
  | 1, _ => exact wd2_11
  | 2, _ => exact wd2_13
  | 3, _ => exact wd2_15
  | 4, _ => exact wd2_17
  | 5, _ => exact wd2_19
  | 6, _ => exact wd2_21
  | k + 7, h => exact absurd h (by omega)
theorem inw8 : ∀ w ∈ u_ws RX8 TX8 24, w ∈ Wds := by
  intro w hw
  obtain ⟨k, hk, rfl⟩ := List.mem_map.mp hw
  rw [List.mem_range] at hk
  match k, hk with
  | 0, _ => exact wd4_13
  | 1, _ => exact wd4_15
  | 2, _ => exact wd4_17
  | 3, _ => exact wd4_19
  | 4, _ => exact wd4_21
  | 5, _ => exact wd4_23
  | 6, _ => exact wd4_25
  | 7, _ => exact wd4_27
  | 8, _ => exact wd4_29
  | 9, _ => exact wd4_31
  | 10, _ => exact wd4_33
  | 11, _ => exact wd4_35
  | 12, _ => exact wd4_37
  | 13, _ => exact wd4_39
  | 14, _ => exact wd4_41
  | 15, _ => exact wd4_43
  | 16, _ => exact wd4_45
  | 17, _ => exact wd4_47
  | 18, _ => exact wd4_49
  | 19, _ => exact wd4_51
  | 20, _ => exact wd4_53
  | 21, _ => exact wd4_55
  | 22, _ => exact wd4_57
  | 23, _ => exact wd4_59
  | k + 24, h => exact absurd h (by omega)
theorem fl_X3_9 : FL RX3 9 3 0 := ⟨RX3, TX3, 3, rfl, by decide, wd1_28, rfl, inw3⟩
theorem fw_X3_9 : FW RX3 9 3 0 .int := ⟨RX3, TX3, 3, tyX3, rfl, by decide, wd1_28, rfl, inw3, tyX3_ok, nmX3, rfl, by decide +kernel⟩
theorem fl_X7_70 : FL RX7 70 3 0 := ⟨RX3, TX3, 3, rfl, by decide, wd1_29, rfl, inw3⟩
theorem fw_X7_70 : FW RX7 70 3 0 .int := ⟨RX3, TX3, 3, tyX3, rfl, by decide, wd1_29, rfl, inw3, tyX3_ok, nmX3, rfl, by decide +kernel⟩
theorem fl_X5_32 : FL RX5 32 3 0 := ⟨RX3, TX3, 3, rfl, by decide, wd1_30, rfl, inw3⟩
theorem fw_X5_32 : FW RX5 32 3 0 .int := ⟨RX3, TX3, 3, tyX3, rfl, by decide, wd1_30, rfl, inw3, tyX3_ok, nmX3, rfl, by decide +kernel⟩
theorem fl_X3_15 : FL RX3 15 3 1 := ⟨RX3, TX3, 3, rfl, by decide, wd1_31, rfl, inw3⟩
theorem fl_X7_80 : FL RX7 80 3 1 := ⟨RX3, TX3, 3, rfl, by decide, wd1_32, rfl, inw3⟩
theorem fl_X5_95 : FL RX5 95 3 1 := ⟨RX3, TX3, 3, rfl, by decide, wd1_33, rfl, inw3⟩
theorem fl_X3_19 : FL RX3 19 3 2 := ⟨RX3, TX3, 3, rfl, by decide, wd1_34, rfl, inw3⟩
theorem fl_X7_88 : FL RX7 88 3 2 := ⟨RX3, TX3, 3, rfl, by decide, wd1_35, rfl, inw3⟩
theorem fl_X6_15 : FL RX6 15 6 0 := ⟨RX6, TX6, 4, rfl, by decide, wd1_52, rfl, inw6⟩
theorem fw_X6_15 : FW RX6 15 6 0 .boolean := ⟨RX6, TX6, 4, tyX6, rfl, by decide, wd1_52, rfl, inw6, tyX6_ok, nmX6, rfl, by decide +kernel⟩
theorem fl_X7_104 : FL RX7 104 6 0 := ⟨RX6, TX6, 4, rfl, by decide, wd1_53, rfl, inw6⟩
theorem fw_X7_104 : FW RX7 104 6 0 .boolean := ⟨RX6, TX6, 4, tyX6, rfl, by decide, wd1_53, rfl, inw6, tyX6_ok, nmX6, rfl, by decide +kernel⟩
theorem fl_X6_19 : FL RX6 19 6 1 := ⟨RX6, TX6, 4, rfl, by decide, wd1_54, rfl, inw6⟩
theorem fw_X6_19 : FW RX6 19 6 1 .int := ⟨RX6, TX6, 4, tyX6, rfl, by decide, wd1_54, rfl, inw6, tyX6_ok, nmX6, rfl, by decide +kernel⟩
theorem fl_X7_121 : FL RX7 121 6 1 := ⟨RX6, TX6, 4, rfl, by decide, wd1_55, rfl, inw6⟩
theorem fw_X7_121 : FW RX7 121 6 1 .int := ⟨RX6, TX6, 4, tyX6, rfl, by decide, wd1_55, rfl, inw6, tyX6_ok, nmX6, rfl, by decide +kernel⟩
theorem fl_X6_23 : FL RX6 23 6 2 := ⟨RX6, TX6, 4, rfl, by decide, wd1_56, rfl, inw6⟩
theorem fw_X6_23 : FW RX6 23 6 2 .int := ⟨RX6, TX6, 4, tyX6, rfl, by decide, wd1_56, rfl, inw6, tyX6_ok, nmX6, rfl, by decide +kernel⟩
theorem fl_X7_110 : FL RX7 110 6 2 := ⟨RX6, TX6, 4, rfl, by decide, wd1_57, rfl, inw6⟩
theorem fw_X7_110 : FW RX7 110 6 2 .int := ⟨RX6, TX6, 4, tyX6, rfl, by decide, wd1_57, rfl, inw6, tyX6_ok, nmX6, rfl, by decide +kernel⟩
theorem fl_X6_9 : FL RX6 9 6 3 := ⟨RX6, TX6, 4, rfl, by decide, wd1_58, rfl, inw6⟩
theorem fl_X7_118 : FL RX7 118 6 3 := ⟨RX6, TX6, 4, rfl, by decide, wd1_59, rfl, inw6⟩
theorem fl_X0_15 : FL RX0 15 0 0 := ⟨RX0, TX0, 13, rfl, by decide, wd1_76, rfl, inw0⟩
theorem fw_X0_15 : FW RX0 15 0 0 .boolean := ⟨RX0, TX0, 13, tyX0, rfl, by decide, wd1_76, rfl, inw0, tyX0_ok, nmX0, rfl, by decide +kernel⟩
theorem fl_X7_276 : FL RX7 276 0 0 := ⟨RX0, TX0, 13, rfl, by decide, wd1_77, rfl, inw0⟩
theorem fw_X7_276 : FW RX7 276 0 0 .boolean := ⟨RX0, TX0, 13, tyX0, rfl, by decide, wd1_77, rfl, inw0, tyX0_ok, nmX0, rfl, by decide +kernel⟩
theorem fl_X0_19 : FL RX0 19 0 1 := ⟨RX0, TX0, 13, rfl, by decide, wd1_78, rfl, inw0⟩
theorem fw_X0_19 : FW RX0 19 0 1 .int := ⟨RX0, TX0, 13, tyX0, rfl, by decide, wd1_78, rfl, inw0, tyX0_ok, nmX0, rfl, by decide +kernel⟩
theorem fl_X0_23 : FL RX0 23 0 2 := ⟨RX0, TX0, 13, rfl, by decide, wd1_79, rfl, inw0⟩
theorem fw_X0_23 : FW RX0 23 0 2 .int := ⟨RX0, TX0, 13, tyX0, rfl, by decide, wd1_79, rfl, inw0, tyX0_ok, nmX0, rfl, by decide +kernel⟩
theorem fl_X5_49 : FL RX5 49 0 2 := ⟨RX0, TX0, 13, rfl, by decide, wd1_80, rfl, inw0⟩
theorem fw_X5_49 : FW RX5 49 0 2 .int := ⟨RX0, TX0, 13, tyX0, rfl, by decide, wd1_80, rfl, inw0, tyX0_ok, nmX0, rfl, by decide +kernel⟩
theorem fl_X2_49 : FL RX2 49 0 2 := ⟨RX0, TX0, 13, rfl, by decide, wd1_81, rfl, inw0⟩
theorem fw_X2_49 : FW RX2 49 0 2 .int := ⟨RX0, TX0, 13, tyX0, rfl, by decide, wd1_81, rfl, inw0, tyX0_ok, nmX0, rfl, by decide +kernel⟩
theorem fl_X7_229 : FL RX7 229 0 2 := ⟨RX0, TX0, 13, rfl, by decide, wd1_82, rfl, inw0⟩
theorem fw_X7_229 : FW RX7 229 0 2 .int := ⟨RX0, TX0, 13, tyX0, rfl, by decide, wd1_82, rfl, inw0, tyX0_ok, nmX0, rfl, by decide +kernel⟩
theorem fl_X0_36 : FL RX0 36 0 3 := ⟨RX0, TX0, 13, rfl, by decide, wd1_83, rfl, inw0⟩
theorem fw_X0_36 : FW RX0 36 0 3 .int := ⟨RX0, TX0, 13, tyX0, rfl, by decide, wd1_83, rfl, inw0, tyX0_ok, nmX0, rfl, by decide +kernel⟩
theorem fl_X5_56 : FL RX5 56 0 3 := ⟨RX0, TX0, 13, rfl, by decide, wd1_84, rfl, inw0⟩
theorem fw_X5_56 : FW RX5 56 0 3 .int := ⟨RX0, TX0, 13, tyX0, rfl, by decide, wd1_84, rfl, inw0, tyX0_ok, nmX0, rfl, by decide +kernel⟩
theorem fl_X2_34 : FL RX2 34 0 3 := ⟨RX0, TX0, 13, rfl, by decide, wd1_85, rfl, inw0⟩
theorem fw_X2_34 : FW RX2 34 0 3 .int := ⟨RX0, TX0, 13, tyX0, rfl, by decide, wd1_85, rfl, inw0, tyX0_ok, nmX0, rfl, by decide +kernel⟩
theorem fl_X3_33 : FL RX3 33 0 3 := ⟨RX0, TX0, 13, rfl, by decide, wd1_86, rfl, inw0⟩
theorem fw_X3_33 : FW RX3 33 0 3 .int := ⟨RX0, TX0, 13, tyX0, rfl, by decide, wd1_86, rfl, inw0, tyX0_ok, nmX0, rfl, by decide +kernel⟩
theorem fl_X7_166 : FL RX7 166 0 3 := ⟨RX0, TX0, 13, rfl, by decide, wd1_87, rfl, inw0⟩
theorem fw_X7_166 : FW RX7 166 0 3 .int := ⟨RX0, TX0, 13, tyX0, rfl, by decide, wd1_87, rfl, inw0, tyX0_ok, nmX0, rfl, by decide +kernel⟩
theorem fl_X0_30 : FL RX0 30 0 4 := ⟨RX0, TX0, 13, rfl, by decide, wd1_88, rfl, inw0⟩
theorem fw_X0_30 : FW RX0 30 0 4 .int := ⟨RX0, TX0, 13, tyX0, rfl, by decide, wd1_88, rfl, inw0, tyX0_ok, nmX0, rfl, by decide +kernel⟩
theorem fl_X3_49 : FL RX3 49 0 4 := ⟨RX0, TX0, 13, rfl, by decide, wd1_89, rfl, inw0⟩
theorem fw_X3_49 : FW RX3 49 0 4 .int := ⟨RX0, TX0, 13, tyX0, rfl, by decide, wd1_89, rfl, inw0, tyX0_ok, nmX0, rfl, by decide +kernel⟩
theorem fl_X5_116 : FL RX5 116 0 4 := ⟨RX0, TX0, 13, rfl, by decide, wd1_90, rfl, inw0⟩
theorem fw_X5_116 : FW RX5 116 0 4 .int := ⟨RX0, TX0, 13, tyX0, rfl, by decide, wd1_90, rfl, inw0, tyX0_ok, nmX0, rfl, by decide +kernel⟩
theorem fl_X7_160 : FL RX7 160 0 4 := ⟨RX0, TX0, 13, rfl, by decide, wd1_91, rfl, inw0⟩
theorem fw_X7_160 : FW RX7 160 0 4 .int := ⟨RX0, TX0, 13, tyX0, rfl, by decide, wd1_91, rfl, inw0, tyX0_ok, nmX0, rfl, by decide +kernel⟩
theorem fl_X0_33 : FL RX0 33 0 5 := ⟨RX0, TX0, 13, rfl, by decide, wd1_92, rfl, inw0⟩
theorem fw_X0_33 : FW RX0 33 0 5 .int := ⟨RX0, TX0, 13, tyX0, rfl, by decide, wd1_92, rfl, inw0, tyX0_ok, nmX0, rfl, by decide +kernel⟩
theorem fl_X3_52 : FL RX3 52 0 5 := ⟨RX0, TX0, 13, rfl, by decide, wd1_93, rfl, inw0⟩
theorem fw_X3_52 : FW RX3 52 0 5 .int := ⟨RX0, TX0, 13, tyX0, rfl, by decide, wd1_93, rfl, inw0, tyX0_ok, nmX0, rfl, by decide +kernel⟩
theorem fl_X5_122 : FL RX5 122 0 5 := ⟨RX0, TX0, 13, rfl, by decide, wd1_94, rfl, inw0⟩
theorem fw_X5_122 : FW RX5 122 0 5 .int := ⟨RX0, TX0, 13, tyX0, rfl, by decide, wd1_94, rfl, inw0, tyX0_ok, nmX0, rfl, by decide +kernel⟩
theorem fl_X7_163 : FL RX7 163 0 5 := ⟨RX0, TX0, 13, rfl, by decide, wd1_95, rfl, inw0⟩
theorem fw_X7_163 : FW RX7 163 0 5 .int := ⟨RX0, TX0, 13, tyX0, rfl, by decide, wd1_95, rfl, inw0, tyX0_ok, nmX0, rfl, by decide +kernel⟩
theorem fl_X0_49 : FL RX0 49 0 6 := ⟨RX0, TX0, 13, rfl, by decide, wd1_96, rfl, inw0⟩
theorem fw_X0_49 : FW RX0 49 0 6 .int := ⟨RX0, TX0, 13, tyX0, rfl, by decide, wd1_96, rfl, inw0, tyX0_ok, nmX0, rfl, by decide +kernel⟩
theorem fl_X5_107 : FL RX5 107 0 6 := ⟨RX0, TX0, 13, rfl, by decide, wd1_97, rfl, inw0⟩
theorem fw_X5_107 : FW RX5 107 0 6 .int := ⟨RX0, TX0, 13, tyX0, rfl, by decide, wd1_97, rfl, inw0, tyX0_ok, nmX0, rfl, by decide +kernel⟩
theorem fl_X0_52 : FL RX0 52 0 7 := ⟨RX0, TX0, 13, rfl, by decide, wd1_98, rfl, inw0⟩
theorem fw_X0_52 : FW RX0 52 0 7 .int := ⟨RX0, TX0, 13, tyX0, rfl, by decide, wd1_98, rfl, inw0, tyX0_ok, nmX0, rfl, by decide +kernel⟩
theorem fl_X5_99 : FL RX5 99 0 7 := ⟨RX0, TX0, 13, rfl, by decide, wd1_99, rfl, inw0⟩
theorem fw_X5_99 : FW RX5 99 0 7 .int := ⟨RX0, TX0, 13, tyX0, rfl, by decide, wd1_99, rfl, inw0, tyX0_ok, nmX0, rfl, by decide +kernel⟩
theorem fl_X0_55 : FL RX0 55 0 8 := ⟨RX0, TX0, 13, rfl, by decide, wd1_100, rfl, inw0⟩
theorem fw_X0_55 : FW RX0 55 0 8 .int := ⟨RX0, TX0, 13, tyX0, rfl, by decide, wd1_100, rfl, inw0, tyX0_ok, nmX0, rfl, by decide +kernel⟩
theorem fl_X0_58 : FL RX0 58 0 9 := ⟨RX0, TX0, 13, rfl, by decide, wd1_101, rfl, inw0⟩
theorem fw_X0_58 : FW RX0 58 0 9 .int := ⟨RX0, TX0, 13, tyX0, rfl, by decide, wd1_101, rfl, inw0, tyX0_ok, nmX0, rfl, by decide +kernel⟩
theorem fl_X0_39 : FL RX0 39 0 10 := ⟨RX0, TX0, 13, rfl, by decide, wd1_102, rfl, inw0⟩
theorem fw_X0_39 : FW RX0 39 0 10 .int := ⟨RX0, TX0, 13, tyX0, rfl, by decide, wd1_102, rfl, inw0, tyX0_ok, nmX0, rfl, by decide +kernel⟩
theorem fl_X5_38 : FL RX5 38 0 10 := ⟨RX0, TX0, 13, rfl, by decide, wd1_103, rfl, inw0⟩
theorem fw_X5_38 : FW RX5 38 0 10 .int := ⟨RX0, TX0, 13, tyX0, rfl, by decide, wd1_103, rfl, inw0, tyX0_ok, nmX0, rfl, by decide +kernel⟩
theorem fl_X3_55 : FL RX3 55 0 10 := ⟨RX0, TX0, 13, rfl, by decide, wd1_104, rfl, inw0⟩
theorem fw_X3_55 : FW RX3 55 0 10 .int := ⟨RX0, TX0, 13, tyX0, rfl, by decide, wd1_104, rfl, inw0, tyX0_ok, nmX0, rfl, by decide +kernel⟩
theorem fl_X7_169 : FL RX7 169 0 10 := ⟨RX0, TX0, 13, rfl, by decide, wd1_105, rfl, inw0⟩
theorem fw_X7_169 : FW RX7 169 0 10 .int := ⟨RX0, TX0, 13, tyX0, rfl, by decide, wd1_105, rfl, inw0, tyX0_ok, nmX0, rfl, by decide +kernel⟩
theorem fl_X0_43 : FL RX0 43 0 11 := ⟨RX0, TX0, 13, rfl, by decide, wd1_106, rfl, inw0⟩
theorem fw_X0_43 : FW RX0 43 0 11 .int := ⟨RX0, TX0, 13, tyX0, rfl, by decide, wd1_106, rfl, inw0, tyX0_ok, nmX0, rfl, by decide +kernel⟩
theorem fl_X7_282 : FL RX7 282 0 11 := ⟨RX0, TX0, 13, rfl, by decide, wd1_107, rfl, inw0⟩
theorem fw_X7_282 : FW RX7 282 0 11 .int := ⟨RX0, TX0, 13, tyX0, rfl, by decide, wd1_107, rfl, inw0, tyX0_ok, nmX0, rfl, by decide +kernel⟩
theorem fl_X0_9 : FL RX0 9 0 12 := ⟨RX0, TX0, 13, rfl, by decide, wd1_108, rfl, inw0⟩
theorem fl_X5_63 : FL RX5 63 0 12 := ⟨RX0, TX0, 13, rfl, by decide, wd1_109, rfl, inw0⟩
theorem fl_X3_36 : FL RX3 36 0 12 := ⟨RX0, TX0, 13, rfl, by decide, wd1_110, rfl, inw0⟩
theorem fl_X7_181 : FL RX7 181 0 12 := ⟨RX0, TX0, 13, rfl, by decide, wd1_111, rfl, inw0⟩
theorem fl_X5_24 : FL RX5 24 5 0 := ⟨RX5, TX5, 10, rfl, by decide, wd1_145, rfl, inw5⟩
theorem fl_X5_28 : FL RX5 28 5 1 := ⟨RX5, TX5, 10, rfl, by decide, wd1_146, rfl, inw5⟩
theorem fl_X5_9 : FL RX5 9 5 2 := ⟨RX5, TX5, 10, rfl, by decide, wd1_147, rfl, inw5⟩
theorem fl_X5_15 : FL RX5 15 5 3 := ⟨RX5, TX5, 10, rfl, by decide, wd1_148, rfl, inw5⟩
theorem fl_X5_18 : FL RX5 18 5 4 := ⟨RX5, TX5, 10, rfl, by decide, wd1_149, rfl, inw5⟩
theorem fl_X5_21 : FL RX5 21 5 5 := ⟨RX5, TX5, 10, rfl, by decide, wd1_150, rfl, inw5⟩
theorem fl_X5_104 : FL RX5 104 5 6 := ⟨RX5, TX5, 10, rfl, by decide, wd1_151, rfl, inw5⟩
theorem fw_X5_104 : FW RX5 104 5 6 .int := ⟨RX5, TX5, 10, tyX5, rfl, by decide, wd1_151, rfl, inw5, tyX5_ok, nmX5, rfl, by decide +kernel⟩
theorem fl_X5_113 : FL RX5 113 5 7 := ⟨RX5, TX5, 10, rfl, by decide, wd1_152, rfl, inw5⟩
theorem fw_X5_113 : FW RX5 113 5 7 .int := ⟨RX5, TX5, 10, tyX5, rfl, by decide, wd1_152, rfl, inw5, tyX5_ok, nmX5, rfl, by decide +kernel⟩
theorem fl_X5_119 : FL RX5 119 5 8 := ⟨RX5, TX5, 10, rfl, by decide, wd1_153, rfl, inw5⟩
theorem fw_X5_119 : FW RX5 119 5 8 .int := ⟨RX5, TX5, 10, tyX5, rfl, by decide, wd1_153, rfl, inw5, tyX5_ok, nmX5, rfl, by decide +kernel⟩
theorem fl_X5_125 : FL RX5 125 5 9 := ⟨RX5, TX5, 10, rfl, by decide, wd1_154, rfl, inw5⟩
theorem fw_X5_125 : FW RX5 125 5 9 .int := ⟨RX5, TX5, 10, tyX5, rfl, by decide, wd1_154, rfl, inw5, tyX5_ok, nmX5, rfl, by decide +kernel⟩
theorem fl_X1_24 : FL RX1 24 1 0 := ⟨RX1, TX1, 5, rfl, by decide, wd1_183, rfl, inw1⟩
theorem fw_X1_24 : FW RX1 24 1 0 .int := ⟨RX1, TX1, 5, tyX1, rfl, by decide, wd1_183, rfl, inw1, tyX1_ok, nmX1, rfl, by decide +kernel⟩
theorem fl_X7_66 : FL RX7 66 1 0 := ⟨RX1, TX1, 5, rfl, by decide, wd1_184, rfl, inw1⟩
theorem fw_X7_66 : FW RX7 66 1 0 .int := ⟨RX1, TX1, 5, tyX1, rfl, by decide, wd1_184, rfl, inw1, tyX1_ok, nmX1, rfl, by decide +kernel⟩
theorem fl_X1_9 : FL RX1 9 1 1 := ⟨RX1, TX1, 5, rfl, by decide, wd1_185, rfl, inw1⟩
theorem fl_X1_15 : FL RX1 15 1 2 := ⟨RX1, TX1, 5, rfl, by decide, wd1_186, rfl, inw1⟩
theorem fl_X1_18 : FL RX1 18 1 3 := ⟨RX1, TX1, 5, rfl, by decide, wd1_187, rfl, inw1⟩
theorem fl_X1_21 : FL RX1 21 1 4 := ⟨RX1, TX1, 5, rfl, by decide, wd1_188, rfl, inw1⟩
theorem fl_X4_9 : FL RX4 9 4 0 := ⟨RX4, TX4, 1, rfl, by decide, wd1_209, rfl, inw4⟩
theorem fl_X7_251 : FL RX7 251 4 0 := ⟨RX4, TX4, 1, rfl, by decide, wd1_210, rfl, inw4⟩
theorem fl_X2_28 : FL RX2 28 2 0 := ⟨RX2, TX2, 6, rfl, by decide, wd1_220, rfl, inw2⟩
theorem fw_X2_28 : FW RX2 28 2 0 .int := ⟨RX2, TX2, 6, tyX2, rfl, by decide, wd1_220, rfl, inw2, tyX2_ok, nmX2, rfl, by decide +kernel⟩
theorem fl_X7_257 : FL RX7 257 2 0 := ⟨RX2, TX2, 6, rfl, by decide, wd1_221, rfl, inw2⟩
theorem fw_X7_257 : FW RX7 257 2 0 .int := ⟨RX2, TX2, 6, tyX2, rfl, by decide, wd1_221, rfl, inw2, tyX2_ok, nmX2, rfl, by decide +kernel⟩
theorem fl_X2_9 : FL RX2 9 2 1 := ⟨RX2, TX2, 6, rfl, by decide, wd1_222, rfl, inw2⟩
theorem fl_X2_15 : FL RX2 15 2 2 := ⟨RX2, TX2, 6, rfl, by decide, wd1_223, rfl, inw2⟩
theorem fl_X2_18 : FL RX2 18 2 3 := ⟨RX2, TX2, 6, rfl, by decide, wd1_224, rfl, inw2⟩
theorem fl_X2_21 : FL RX2 21 2 4 := ⟨RX2, TX2, 6, rfl, by decide, wd1_225, rfl, inw2⟩
theorem fl_X7_269 : FL RX7 269 2 4 := ⟨RX2, TX2, 6, rfl, by decide, wd1_226, rfl, inw2⟩
theorem fl_X2_24 : FL RX2 24 2 5 := ⟨RX2, TX2, 6, rfl, by decide, wd1_227, rfl, inw2⟩
theorem fl_X7_272 : FL RX7 272 2 5 := ⟨RX2, TX2, 6, rfl, by decide, wd1_228, rfl, inw2⟩
theorem fl_X7_12 : FL RX7 12 7 0 := ⟨RX7, TX7, 7, rfl, by decide, wd2_2, rfl, inw7⟩
theorem fl_X7_18 : FL RX7 18 7 1 := ⟨RX7, TX7, 7, rfl, by decide, wd2_3, rfl, inw7⟩
theorem fl_X7_25 : FL RX7 25 7 2 := ⟨RX7, TX7, 7, rfl, by decide, wd2_4, rfl, inw7⟩
theorem fl_X7_35 : FL RX7 35 7 3 := ⟨RX7, TX7, 7, rfl, by decide, wd2_5, rfl, inw7⟩
theorem fl_X7_42 : FL RX7 42 7 4 := ⟨RX7, TX7, 7, rfl, by decide, wd2_6, rfl, inw7⟩
theorem fl_X7_49 : FL RX7 49 7 5 := ⟨RX7, TX7, 7, rfl, by decide, wd2_7, rfl, inw7⟩
theorem fl_X7_56 : FL RX7 56 7 6 := ⟨RX7, TX7, 7, rfl, by decide, wd2_8, rfl, inw7⟩
theorem fl_X8_7 : FL RX8 7 8 0 := ⟨RX8, TX8, 24, rfl, by decide, wd3_229, rfl, inw8⟩
theorem fw_X8_7 : FW RX8 7 8 0 .int := ⟨RX8, TX8, 24, tyX8, rfl, by decide, wd3_229, rfl, inw8, tyX8_ok, nmX8, rfl, by decide +kernel⟩
theorem fl_X8_13 : FL RX8 13 8 1 := ⟨RX8, TX8, 24, rfl, by decide, wd3_230, rfl, inw8⟩
theorem fl_X8_17 : FL RX8 17 8 2 := ⟨RX8, TX8, 24, rfl, by decide, wd3_231, rfl, inw8⟩
theorem fl_X8_21 : FL RX8 21 8 3 := ⟨RX8, TX8, 24, rfl, by decide, wd3_232, rfl, inw8⟩
theorem fl_X8_24 : FL RX8 24 8 4 := ⟨RX8, TX8, 24, rfl, by decide, wd3_233, rfl, inw8⟩
theorem fl_X8_27 : FL RX8 27 8 5 := ⟨RX8, TX8, 24, rfl, by decide, wd3_234, rfl, inw8⟩
theorem fl_X8_30 : FL RX8 30 8 6 := ⟨RX8, TX8, 24, rfl, by decide, wd3_235, rfl, inw8⟩
theorem fl_X8_33 : FL RX8 33 8 7 := ⟨RX8, TX8, 24, rfl, by decide, wd3_236, rfl, inw8⟩
theorem fl_X8_36 : FL RX8 36 8 8 := ⟨RX8, TX8, 24, rfl, by decide, wd3_237, rfl, inw8⟩
theorem fl_X8_39 : FL RX8 39 8 9 := ⟨RX8, TX8, 24, rfl, by decide, wd3_238, rfl, inw8⟩
theorem fl_X8_42 : FL RX8 42 8 10 := ⟨RX8, TX8, 24, rfl, by decide, wd3_239, rfl, inw8⟩
theorem fl_X8_45 : FL RX8 45 8 11 := ⟨RX8, TX8, 24, rfl, by decide, wd4_0, rfl, inw8⟩
theorem fl_X8_48 : FL RX8 48 8 12 := ⟨RX8, TX8, 24, rfl, by decide, wd4_1, rfl, inw8⟩
theorem fl_X8_51 : FL RX8 51 8 13 := ⟨RX8, TX8, 24, rfl, by decide, wd4_2, rfl, inw8⟩
theorem fl_X8_54 : FL RX8 54 8 14 := ⟨RX8, TX8, 24, rfl, by decide, wd4_3, rfl, inw8⟩
theorem fl_X8_57 : FL RX8 57 8 15 := ⟨RX8, TX8, 24, rfl, by decide, wd4_4, rfl, inw8⟩
theorem fl_X8_60 : FL RX8 60 8 16 := ⟨RX8, TX8, 24, rfl, by decide, wd4_5, rfl, inw8⟩
theorem fl_X8_89 : FL RX8 89 8 17 := ⟨RX8, TX8, 24, rfl, by decide, wd4_6, rfl, inw8⟩
theorem fw_X8_89 : FW RX8 89 8 17 .int := ⟨RX8, TX8, 24, tyX8, rfl, by decide, wd4_6, rfl, inw8, tyX8_ok, nmX8, rfl, by decide +kernel⟩
theorem fl_X8_63 : FL RX8 63 8 18 := ⟨RX8, TX8, 24, rfl, by decide, wd4_7, rfl, inw8⟩
theorem fl_X8_66 : FL RX8 66 8 19 := ⟨RX8, TX8, 24, rfl, by decide, wd4_8, rfl, inw8⟩
theorem fl_X8_240 : FL RX8 240 8 20 := ⟨RX8, TX8, 24, rfl, by decide, wd4_9, rfl, inw8⟩
theorem fw_X8_240 : FW RX8 240 8 20 .int := ⟨RX8, TX8, 24, tyX8, rfl, by decide, wd4_9, rfl, inw8, tyX8_ok, nmX8, rfl, by decide +kernel⟩
theorem fl_X8_70 : FL RX8 70 8 21 := ⟨RX8, TX8, 24, rfl, by decide, wd4_10, rfl, inw8⟩
theorem fl_X8_73 : FL RX8 73 8 22 := ⟨RX8, TX8, 24, rfl, by decide, wd4_11, rfl, inw8⟩
theorem fl_X8_76 : FL RX8 76 8 23 := ⟨RX8, TX8, 24, rfl, by decide, wd4_12, rfl, inw8⟩
theorem ms_X4_15 : MS RX4 15 yJ7_fill_53178 cJ7_fill_53178 4 (Option.none : Option FieldType) 2 := ⟨⟨wd1_206, wd1_208, wd1_8, by decide +kernel, by decide +kernel, by decide +kernel⟩, wd1_207⟩
theorem mv_L_13 : MV RL 13 yX7_time cX7_time 4 (Option.some FieldType.long) 1 := ⟨⟨wd2_24, wd2_27, wd1_1, by decide +kernel, by decide +kernel, by decide +kernel⟩, wd2_25, wd2_26⟩
theorem ms_X7_60 : MS RX7 60 yX7_within cX7_within 3 (Option.some FieldType.boolean) 3 := ⟨⟨wd2_28, wd2_30, wd1_1, by decide +kernel, by decide +kernel, by decide +kernel⟩, wd2_29⟩
theorem mv_X7_73 : MV RX7 73 yX0_clearPlan cX0_clearPlan 1 (Option.none : Option FieldType) 0 := ⟨⟨wd2_32, wd2_35, wd1_4, by decide +kernel, by decide +kernel, by decide +kernel⟩, wd2_33, wd2_34⟩
theorem ms_X0_61 : MS RX0 61 yJ7_fill_53178 cJ7_fill_53178 4 (Option.none : Option FieldType) 2 := ⟨⟨wd2_36, wd1_208, wd1_8, by decide +kernel, by decide +kernel, by decide +kernel⟩, wd1_207⟩
theorem mv_L_18 : MV RL 18 yX7_dark cX7_dark 4 (Option.some FieldType.long) 2 := ⟨⟨wd2_37, wd2_40, wd1_1, by decide +kernel, by decide +kernel, by decide +kernel⟩, wd2_38, wd2_39⟩
theorem ms_X7_76 : MS RX7 76 yX7_isAnyStep cX7_isAnyStep 1 (Option.some FieldType.boolean) 1 := ⟨⟨wd2_41, wd2_43, wd1_1, by decide +kernel, by decide +kernel, by decide +kernel⟩, wd2_42⟩
theorem ms_X7_84 : MS RX7 84 yX7_oneIf cX7_oneIf 1 (Option.some FieldType.long) 1 := ⟨⟨wd2_44, wd2_46, wd1_1, by decide +kernel, by decide +kernel, by decide +kernel⟩, wd2_45⟩
theorem mv_L_23 : MV RL 23 yX7_keep cX7_keep 4 (Option.some FieldType.long) 2 := ⟨⟨wd2_47, wd2_50, wd1_1, by decide +kernel, by decide +kernel, by decide +kernel⟩, wd2_48, wd2_49⟩
theorem mv_L_27 : MV RL 27 yX7_world cX7_world 4 (Option.some FieldType.long) 3 := ⟨⟨wd2_51, wd2_54, wd1_1, by decide +kernel, by decide +kernel, by decide +kernel⟩, wd2_52, wd2_53⟩
theorem ms_X7_92 : MS RX7 92 yX7_isWorld cX7_isWorld 1 (Option.some FieldType.boolean) 1 := ⟨⟨wd2_55, wd2_57, wd1_1, by decide +kernel, by decide +kernel, by decide +kernel⟩, wd2_56⟩
theorem mv_X7_100 : MV RX7 100 yX6_renew cX6_renew 3 (Option.none : Option FieldType) 2 := ⟨⟨wd2_61, wd2_64, wd1_3, by decide +kernel, by decide +kernel, by decide +kernel⟩, wd2_62, wd2_63⟩
theorem ms_X6_26 : MS RX6 26 yJ7_fill_53178 cJ7_fill_53178 4 (Option.none : Option FieldType) 2 := ⟨⟨wd2_65, wd1_208, wd1_8, by decide +kernel, by decide +kernel, by decide +kernel⟩, wd1_207⟩
theorem mv_L_32 : MV RL 32 yX7_lose cX7_lose 3 (Option.some FieldType.long) 1 := ⟨⟨wd2_66, wd2_69, wd1_1, by decide +kernel, by decide +kernel, by decide +kernel⟩, wd2_67, wd2_68⟩
theorem mv_L_36 : MV RL 36 yX7_price cX7_price 6 (Option.some FieldType.long) 3 := ⟨⟨wd2_71, wd2_74, wd1_1, by decide +kernel, by decide +kernel, by decide +kernel⟩, wd2_72, wd2_73⟩
theorem mv_X7_115 : MV RX7 115 yX6_fits cX6_fits 2 (Option.some FieldType.boolean) 1 := ⟨⟨wd2_76, wd2_79, wd1_3, by decide +kernel, by decide +kernel, by decide +kernel⟩, wd2_77, wd2_78⟩
theorem mv_L_40 : MV RL 40 yX7_copy cX7_copy 8 (Option.some FieldType.long) 5 := ⟨⟨wd2_82, wd2_85, wd1_1, by decide +kernel, by decide +kernel, by decide +kernel⟩, wd2_83, wd2_84⟩
theorem mv_X7_126 : MV RX7 126 yX6_hasRun cX6_hasRun 3 (Option.some FieldType.boolean) 2 := ⟨⟨wd2_87, wd2_90, wd1_3, by decide +kernel, by decide +kernel, by decide +kernel⟩, wd2_88, wd2_89⟩
theorem mv_L_45 : MV RL 45 yX7_told cX7_told 3 (Option.some FieldType.long) 2 := ⟨⟨wd2_94, wd2_97, wd1_1, by decide +kernel, by decide +kernel, by decide +kernel⟩, wd2_95, wd2_96⟩
theorem mv_X7_136 : MV RX7 136 yX6_priceOf cX6_priceOf 2 (Option.some FieldType.int) 1 := ⟨⟨wd2_98, wd2_101, wd1_3, by decide +kernel, by decide +kernel, by decide +kernel⟩, wd2_99, wd2_100⟩
theorem mv_L_49 : MV RL 49 yX7_store cX7_store 7 (Option.some FieldType.long) 5 := ⟨⟨wd2_102, wd2_105, wd1_1, by decide +kernel, by decide +kernel, by decide +kernel⟩, wd2_103, wd2_104⟩
theorem ms_X7_140 : MS RX7 140 yX7_isBattery cX7_isBattery 1 (Option.some FieldType.boolean) 1 := ⟨⟨wd2_106, wd2_108, wd1_1, by decide +kernel, by decide +kernel, by decide +kernel⟩, wd2_107⟩
theorem ms_X7_143 : MS RX7 143 yX7_isKind cX7_isKind 1 (Option.some FieldType.boolean) 1 := ⟨⟨wd2_109, wd2_111, wd1_1, by decide +kernel, by decide +kernel, by decide +kernel⟩, wd2_110⟩
theorem ms_X7_146 : MS RX7 146 yX7_areRates cX7_areRates 1 (Option.some FieldType.boolean) 1 := ⟨⟨wd2_112, wd2_114, wd1_1, by decide +kernel, by decide +kernel, by decide +kernel⟩, wd2_113⟩
theorem mv_X7_149 : MV RX7 149 yX0_renew cX0_renew 3 (Option.none : Option FieldType) 2 := ⟨⟨wd2_115, wd2_118, wd1_4, by decide +kernel, by decide +kernel, by decide +kernel⟩, wd2_116, wd2_117⟩
theorem mv_X0_26 : MV RX0 26 yX0_isA cX0_isA 2 (Option.some FieldType.boolean) 1 := ⟨⟨wd2_119, wd2_122, wd1_4, by decide +kernel, by decide +kernel, by decide +kernel⟩, wd2_120, wd2_121⟩
theorem mv_X0_46 : MV RX0 46 yX0_clearPlan cX0_clearPlan 1 (Option.none : Option FieldType) 0 := ⟨⟨wd2_124, wd2_35, wd1_4, by decide +kernel, by decide +kernel, by decide +kernel⟩, wd2_33, wd2_34⟩
theorem mv_X7_150 : MV RX7 150 yX0_setRates cX0_setRates 4 (Option.none : Option FieldType) 2 := ⟨⟨wd2_125, wd2_128, wd1_4, by decide +kernel, by decide +kernel, by decide +kernel⟩, wd2_126, wd2_127⟩
theorem mv_X7_153 : MV RX7 153 yX0_setLosses cX0_setLosses 3 (Option.none : Option FieldType) 2 := ⟨⟨wd2_129, wd2_132, wd1_4, by decide +kernel, by decide +kernel, by decide +kernel⟩, wd2_130, wd2_131⟩
theorem mv_L_53 : MV RL 53 yX7_charge cX7_charge 7 (Option.some FieldType.long) 2 := ⟨⟨wd2_133, wd2_136, wd1_1, by decide +kernel, by decide +kernel, by decide +kernel⟩, wd2_134, wd2_135⟩
theorem mv_X7_156 : MV RX7 156 yX7_refusal cX7_refusal 3 (Option.some FieldType.long) 2 := ⟨⟨wd2_137, wd2_140, wd1_1, by decide +kernel, by decide +kernel, by decide +kernel⟩, wd2_139, wdp_0⟩
theorem mv_L_57 : MV RL 57 yX7_end cX7_end 6 (Option.some FieldType.long) 2 := ⟨⟨wd2_141, wd2_144, wd1_1, by decide +kernel, by decide +kernel, by decide +kernel⟩, wd2_142, wd2_143⟩
theorem mv_L_61 : MV RL 61 yX7_about cX7_about 5 (Option.some FieldType.long) 2 := ⟨⟨wd2_145, wd2_148, wd1_1, by decide +kernel, by decide +kernel, by decide +kernel⟩, wd2_146, wd2_147⟩
theorem mv_X7_172 : MV RX7 172 yX0_fact cX0_fact 2 (Option.some FieldType.int) 1 := ⟨⟨wd2_149, wd2_152, wd1_4, by decide +kernel, by decide +kernel, by decide +kernel⟩, wd2_150, wd2_151⟩
theorem mv_L_65 : MV RL 65 yX7_isOf cX7_isOf 5 (Option.some FieldType.long) 2 := ⟨⟨wd2_153, wd2_156, wd1_1, by decide +kernel, by decide +kernel, by decide +kernel⟩, wd2_154, wd2_155⟩
theorem mv_X7_175 : MV RX7 175 yX0_isA cX0_isA 2 (Option.some FieldType.boolean) 1 := ⟨⟨wd2_157, wd2_122, wd1_4, by decide +kernel, by decide +kernel, by decide +kernel⟩, wd2_120, wd2_121⟩
theorem mv_L_69 : MV RL 69 yX7_put cX7_put 7 (Option.some FieldType.long) 3 := ⟨⟨wd2_158, wd2_161, wd1_1, by decide +kernel, by decide +kernel, by decide +kernel⟩, wd2_159, wd2_160⟩
theorem mv_X7_178 : MV RX7 178 yX7_isStepNow cX7_isStepNow 2 (Option.some FieldType.boolean) 1 := ⟨⟨wd2_162, wd2_165, wd1_1, by decide +kernel, by decide +kernel, by decide +kernel⟩, wd2_164, wdp_1⟩
theorem mv_L_73 : MV RL 73 yX7_planned cX7_planned 5 (Option.some FieldType.long) 2 := ⟨⟨wd2_166, wd2_169, wd1_1, by decide +kernel, by decide +kernel, by decide +kernel⟩, wd2_167, wd2_168⟩
theorem mv_L_77 : MV RL 77 yX7_behind cX7_behind 5 (Option.some FieldType.long) 2 := ⟨⟨wd2_170, wd2_173, wd1_1, by decide +kernel, by decide +kernel, by decide +kernel⟩, wd2_171, wd2_172⟩
theorem mv_X7_184 : MV RX7 184 yX0_chargeBehind cX0_chargeBehind 4 (Option.some FieldType.int) 1 := ⟨⟨wd2_174, wd2_177, wd1_4, by decide +kernel, by decide +kernel, by decide +kernel⟩, wd2_175, wd2_176⟩
theorem mv_L_81 : MV RL 81 yX7_why cX7_why 4 (Option.some FieldType.long) 1 := ⟨⟨wd2_178, wd2_181, wd1_1, by decide +kernel, by decide +kernel, by decide +kernel⟩, wd2_179, wd2_180⟩
theorem mv_X7_187 : MV RX7 187 yX3_firstFault cX3_firstFault 5 (Option.some FieldType.long) 1 := ⟨⟨wd2_182, wd2_185, wd1_2, by decide +kernel, by decide +kernel, by decide +kernel⟩, wd2_183, wd2_184⟩
theorem mv_X3_39 : MV RX3 39 yX3_faultAt cX3_faultAt 4 (Option.some FieldType.int) 3 := ⟨⟨wd2_186, wd2_189, wd1_2, by decide +kernel, by decide +kernel, by decide +kernel⟩, wd2_188, wdp_2⟩
theorem mv_X3_45 : MV RX3 45 yX3_allowsMove cX3_allowsMove 4 (Option.some FieldType.boolean) 3 := ⟨⟨wd2_190, wd2_193, wd1_2, by decide +kernel, by decide +kernel, by decide +kernel⟩, wd2_191, wd2_192⟩
theorem mv_X3_23 : MV RX3 23 yX3_keptBack cX3_keptBack 2 (Option.some FieldType.int) 1 := ⟨⟨wd2_194, wd2_197, wd1_2, by decide +kernel, by decide +kernel, by decide +kernel⟩, wd2_195, wd2_196⟩
theorem mv_X3_27 : MV RX3 27 yX0_isInRates cX0_isInRates 3 (Option.some FieldType.boolean) 2 := ⟨⟨wd2_198, wd2_201, wd1_4, by decide +kernel, by decide +kernel, by decide +kernel⟩, wd2_199, wd2_200⟩
theorem mv_L_85 : MV RL 85 yX7_money cX7_money 5 (Option.some FieldType.long) 2 := ⟨⟨wd2_203, wd2_206, wd1_1, by decide +kernel, by decide +kernel, by decide +kernel⟩, wd2_204, wd2_205⟩
theorem mv_X7_191 : MV RX7 191 yX0_planMoney cX0_planMoney 6 (Option.some FieldType.long) 2 := ⟨⟨wd2_207, wd2_210, wd1_4, by decide +kernel, by decide +kernel, by decide +kernel⟩, wd2_208, wd2_209⟩
theorem mv_X0_80 : MV RX0 80 yX6_priceOf cX6_priceOf 2 (Option.some FieldType.int) 1 := ⟨⟨wd2_211, wd2_101, wd1_3, by decide +kernel, by decide +kernel, by decide +kernel⟩, wd2_99, wd2_100⟩
theorem mv_X0_86 : MV RX0 86 yX0_moneyOf cX0_moneyOf 4 (Option.some FieldType.long) 2 := ⟨⟨wd2_212, wd2_215, wd1_4, by decide +kernel, by decide +kernel, by decide +kernel⟩, wd2_213, wd2_214⟩
theorem mv_X0_76 : MV RX0 76 yX0_moneyTogether cX0_moneyTogether 5 (Option.some FieldType.long) 3 := ⟨⟨wd2_216, wd2_219, wd1_4, by decide +kernel, by decide +kernel, by decide +kernel⟩, wd2_217, wd2_218⟩
theorem mv_L_89 : MV RL 89 yX7_worst cX7_worst 8 (Option.some FieldType.long) 2 := ⟨⟨wd2_220, wd2_223, wd1_1, by decide +kernel, by decide +kernel, by decide +kernel⟩, wd2_221, wd2_222⟩
theorem ms_X7_195 : MS RX7 195 yX7_areWorlds cX7_areWorlds 1 (Option.some FieldType.boolean) 1 := ⟨⟨wd2_224, wd2_226, wd1_1, by decide +kernel, by decide +kernel, by decide +kernel⟩, wd2_225⟩
theorem ms_X7_202 : MS RX7 202 yX7_hasWorld cX7_hasWorld 2 (Option.some FieldType.boolean) 2 := ⟨⟨wd2_228, wd2_230, wd1_1, by decide +kernel, by decide +kernel, by decide +kernel⟩, wd2_229⟩
theorem ms_X7_205 : MS RX7 205 yJ9_min_f86c9 cJ9_min_f86c9 4 (Option.some FieldType.long) 2 := ⟨⟨wd2_231, wd2_233, wd1_12, by decide +kernel, by decide +kernel, by decide +kernel⟩, wd2_232⟩
theorem mv_L_93 : MV RL 93 yX7_best cX7_best 8 (Option.some FieldType.long) 2 := ⟨⟨wd2_234, wd2_237, wd1_1, by decide +kernel, by decide +kernel, by decide +kernel⟩, wd2_235, wd2_236⟩
theorem mv_X7_211 : MV RX7 211 yX5_solve cX5_solve 6 (Option.none : Option FieldType) 3 := ⟨⟨wd2_238, wd3_1, wd1_5, by decide +kernel, by decide +kernel, by decide +kernel⟩, wd2_239, wd3_0⟩
theorem mv_X5_45 : MV RX5 45 yX5_openStep cX5_openStep 9 (Option.none : Option FieldType) 3 := ⟨⟨wd3_3, wd3_6, wd1_5, by decide +kernel, by decide +kernel, by decide +kernel⟩, wd3_5, wdp_3⟩
theorem mv_X5_91 : MV RX5 91 yX3_keptBack cX3_keptBack 2 (Option.some FieldType.int) 1 := ⟨⟨wd3_7, wd2_197, wd1_2, by decide +kernel, by decide +kernel, by decide +kernel⟩, wd2_195, wd2_196⟩
theorem ms_X5_102 : MS RX5 102 yJ9_min_7cf53 cJ9_min_7cf53 2 (Option.some FieldType.int) 2 := ⟨⟨wd3_8, wd3_10, wd1_12, by decide +kernel, by decide +kernel, by decide +kernel⟩, wd3_9⟩
theorem ms_X5_110 : MS RX5 110 yJ9_max_7cf53 cJ9_max_7cf53 2 (Option.some FieldType.int) 2 := ⟨⟨wd3_11, wd3_13, wd1_12, by decide +kernel, by decide +kernel, by decide +kernel⟩, wd3_12⟩
theorem mv_X5_128 : MV RX5 128 yX5_sumOfPrices cX5_sumOfPrices 6 (Option.some FieldType.long) 2 := ⟨⟨wd3_14, wd3_17, wd1_5, by decide +kernel, by decide +kernel, by decide +kernel⟩, wd3_16, wdp_4⟩
theorem mv_X5_148 : MV RX5 148 yX6_priceOf cX6_priceOf 2 (Option.some FieldType.int) 1 := ⟨⟨wd3_19, wd2_101, wd1_3, by decide +kernel, by decide +kernel, by decide +kernel⟩, wd2_99, wd2_100⟩
theorem ms_X5_131 : MS RX5 131 yJ6_bitCount_0f7a4 cJ6_bitCount_0f7a4 1 (Option.some FieldType.int) 1 := ⟨⟨wd3_20, wd3_22, wd1_13, by decide +kernel, by decide +kernel, by decide +kernel⟩, wd3_21⟩
theorem mv_X5_136 : MV RX5 136 yX3_allowsMove cX3_allowsMove 4 (Option.some FieldType.boolean) 3 := ⟨⟨wd3_26, wd2_193, wd1_2, by decide +kernel, by decide +kernel, by decide +kernel⟩, wd2_191, wd2_192⟩
theorem mv_X5_140 : MV RX5 140 yX0_moneyTogether cX0_moneyTogether 5 (Option.some FieldType.long) 3 := ⟨⟨wd3_27, wd2_219, wd1_4, by decide +kernel, by decide +kernel, by decide +kernel⟩, wd2_217, wd2_218⟩
theorem mv_X5_52 : MV RX5 52 yX5_greatest cX5_greatest 9 (Option.some FieldType.long) 2 := ⟨⟨wd3_28, wd3_31, wd1_5, by decide +kernel, by decide +kernel, by decide +kernel⟩, wd3_30, wdp_5⟩
theorem mv_X5_153 : MV RX5 153 yX5_lastMove cX5_lastMove 2 (Option.some FieldType.int) 1 := ⟨⟨wd3_32, wd3_35, wd1_5, by decide +kernel, by decide +kernel, by decide +kernel⟩, wd3_34, wdp_6⟩
theorem mv_X5_156 : MV RX5 156 yX5_firstMove cX5_firstMove 2 (Option.some FieldType.int) 1 := ⟨⟨wd3_36, wd3_39, wd1_5, by decide +kernel, by decide +kernel, by decide +kernel⟩, wd3_38, wdp_7⟩
theorem mv_X5_159 : MV RX5 159 yX5_worthThrough cX5_worthThrough 8 (Option.some FieldType.long) 3 := ⟨⟨wd3_40, wd3_43, wd1_5, by decide +kernel, by decide +kernel, by decide +kernel⟩, wd3_42, wdp_8⟩
theorem mv_X7_215 : MV RX7 215 yX5_worthOf cX5_worthOf 3 (Option.some FieldType.long) 2 := ⟨⟨wd3_44, wd3_47, wd1_5, by decide +kernel, by decide +kernel, by decide +kernel⟩, wd3_45, wd3_46⟩
theorem mv_X7_221 : MV RX7 221 yX5_writeFirstBest cX5_writeFirstBest 6 (Option.none : Option FieldType) 2 := ⟨⟨wd3_49, wd3_52, wd1_5, by decide +kernel, by decide +kernel, by decide +kernel⟩, wd3_50, wd3_51⟩
theorem mv_X5_59 : MV RX5 59 yX5_leastBest cX5_leastBest 5 (Option.some FieldType.int) 2 := ⟨⟨wd3_53, wd3_56, wd1_5, by decide +kernel, by decide +kernel, by decide +kernel⟩, wd3_55, wdp_9⟩
theorem mv_X5_163 : MV RX5 163 yX5_worthOf cX5_worthOf 3 (Option.some FieldType.long) 2 := ⟨⟨wd3_57, wd3_47, wd1_5, by decide +kernel, by decide +kernel, by decide +kernel⟩, wd3_45, wd3_46⟩
theorem mv_L_97 : MV RL 97 yX7_many cX7_many 6 (Option.some FieldType.long) 2 := ⟨⟨wd3_58, wd3_61, wd1_1, by decide +kernel, by decide +kernel, by decide +kernel⟩, wd3_59, wd3_60⟩
theorem mv_X7_225 : MV RX7 225 yX5_waysOfBest cX5_waysOfBest 6 (Option.some FieldType.long) 2 := ⟨⟨wd3_62, wd3_65, wd1_5, by decide +kernel, by decide +kernel, by decide +kernel⟩, wd3_63, wd3_64⟩
theorem ms_X5_67 : MS RX5 67 yJ7_fill_d0a16 cJ7_fill_d0a16 5 (Option.none : Option FieldType) 2 := ⟨⟨wd3_66, wd3_68, wd1_8, by decide +kernel, by decide +kernel, by decide +kernel⟩, wd3_67⟩
theorem mv_X5_73 : MV RX5 73 yX5_spreadWays cX5_spreadWays 5 (Option.none : Option FieldType) 2 := ⟨⟨wd3_69, wd3_72, wd1_5, by decide +kernel, by decide +kernel, by decide +kernel⟩, wd3_71, wdp_10⟩
theorem ms_X5_85 : MS RX5 85 yJ9_min_f86c9 cJ9_min_f86c9 4 (Option.some FieldType.long) 2 := ⟨⟨wd3_74, wd2_233, wd1_12, by decide +kernel, by decide +kernel, by decide +kernel⟩, wd2_232⟩
theorem mv_L_101 : MV RL 101 yX7_value cX7_value 8 (Option.some FieldType.long) 4 := ⟨⟨wd3_76, wd3_79, wd1_1, by decide +kernel, by decide +kernel, by decide +kernel⟩, wd3_77, wd3_78⟩
theorem mv_L_106 : MV RL 106 yX7_bid cX7_bid 5 (Option.some FieldType.long) 4 := ⟨⟨wd3_80, wd3_83, wd1_1, by decide +kernel, by decide +kernel, by decide +kernel⟩, wd3_81, wd3_82⟩
theorem mv_X7_232 : MV RX7 232 yX1_add cX1_add 5 (Option.some FieldType.int) 4 := ⟨⟨wd3_85, wd3_88, wd1_6, by decide +kernel, by decide +kernel, by decide +kernel⟩, wd3_86, wd3_87⟩
theorem mv_L_110 : MV RL 110 yX7_unbid cX7_unbid 1 (Option.some FieldType.long) 0 := ⟨⟨wd3_89, wd3_92, wd1_1, by decide +kernel, by decide +kernel, by decide +kernel⟩, wd3_90, wd3_91⟩
theorem mv_L_115 : MV RL 115 yX7_taken cX7_taken 3 (Option.some FieldType.long) 2 := ⟨⟨wd3_93, wd3_96, wd1_1, by decide +kernel, by decide +kernel, by decide +kernel⟩, wd3_94, wd3_95⟩
theorem mv_X7_236 : MV RX7 236 yX1_isTaken cX1_isTaken 5 (Option.some FieldType.boolean) 2 := ⟨⟨wd3_97, wd3_100, wd1_6, by decide +kernel, by decide +kernel, by decide +kernel⟩, wd3_98, wd3_99⟩
theorem mv_X1_28 : MV RX1 28 yX6_priceOf cX6_priceOf 2 (Option.some FieldType.int) 1 := ⟨⟨wd3_101, wd2_101, wd1_3, by decide +kernel, by decide +kernel, by decide +kernel⟩, wd2_99, wd2_100⟩
theorem mv_L_119 : MV RL 119 yX7_wanted cX7_wanted 3 (Option.some FieldType.long) 2 := ⟨⟨wd3_102, wd3_105, wd1_1, by decide +kernel, by decide +kernel, by decide +kernel⟩, wd3_103, wd3_104⟩
theorem mv_X7_240 : MV RX7 240 yX1_sumWanted cX1_sumWanted 5 (Option.some FieldType.int) 2 := ⟨⟨wd3_106, wd3_109, wd1_6, by decide +kernel, by decide +kernel, by decide +kernel⟩, wd3_107, wd3_108⟩
theorem mv_X1_38 : MV RX1 38 yX1_isTaken cX1_isTaken 5 (Option.some FieldType.boolean) 2 := ⟨⟨wd3_111, wd3_100, wd1_6, by decide +kernel, by decide +kernel, by decide +kernel⟩, wd3_98, wd3_99⟩
theorem mv_L_123 : MV RL 123 yX7_fill cX7_fill 12 (Option.some FieldType.long) 2 := ⟨⟨wd3_112, wd3_115, wd1_1, by decide +kernel, by decide +kernel, by decide +kernel⟩, wd3_113, wd3_114⟩
theorem mv_X7_244 : MV RX7 244 yX0_possible cX0_possible 5 (Option.some FieldType.int) 2 := ⟨⟨wd3_116, wd3_119, wd1_4, by decide +kernel, by decide +kernel, by decide +kernel⟩, wd3_117, wd3_118⟩
theorem ms_X0_67 : MS RX0 67 yJ9_min_7cf53 cJ9_min_7cf53 2 (Option.some FieldType.int) 2 := ⟨⟨wd3_120, wd3_10, wd1_12, by decide +kernel, by decide +kernel, by decide +kernel⟩, wd3_9⟩
theorem ms_X0_73 : MS RX0 73 yJ9_max_7cf53 cJ9_max_7cf53 2 (Option.some FieldType.int) 2 := ⟨⟨wd3_121, wd3_13, wd1_12, by decide +kernel, by decide +kernel, by decide +kernel⟩, wd3_12⟩
theorem ms_X7_248 : MS RX7 248 yJ9_abs_0f7a4 cJ9_abs_0f7a4 1 (Option.some FieldType.int) 1 := ⟨⟨wd3_122, wd3_124, wd1_12, by decide +kernel, by decide +kernel, by decide +kernel⟩, wd3_123⟩
theorem mv_L_127 : MV RL 127 yX7_meter cX7_meter 4 (Option.some FieldType.long) 2 := ⟨⟨wd3_125, wd3_128, wd1_1, by decide +kernel, by decide +kernel, by decide +kernel⟩, wd3_126, wd3_127⟩
theorem mv_L_131 : MV RL 131 yX7_counts cX7_counts 2 (Option.some FieldType.long) 1 := ⟨⟨wd3_129, wd3_132, wd1_1, by decide +kernel, by decide +kernel, by decide +kernel⟩, wd3_130, wd3_131⟩
theorem mv_X7_254 : MV RX7 254 yX4_counting cX4_counting 4 (Option.some FieldType.int) 1 := ⟨⟨wd3_133, wd3_136, wd1_7, by decide +kernel, by decide +kernel, by decide +kernel⟩, wd3_134, wd3_135⟩
theorem mv_X4_21 : MV RX4 21 yX4_nearestAhead cX4_nearestAhead 3 (Option.some FieldType.int) 1 := ⟨⟨wd3_137, wd3_140, wd1_7, by decide +kernel, by decide +kernel, by decide +kernel⟩, wd3_139, wdp_11⟩
theorem mv_X4_25 : MV RX4 25 yX4_nearestBehind cX4_nearestBehind 3 (Option.some FieldType.int) 1 := ⟨⟨wd3_141, wd3_144, wd1_7, by decide +kernel, by decide +kernel, by decide +kernel⟩, wd3_143, wdp_12⟩
theorem ms_X4_28 : MS RX4 28 yJ9_floorDiv_7cf53 cJ9_floorDiv_7cf53 3 (Option.some FieldType.int) 2 := ⟨⟨wd3_145, wd3_147, wd1_12, by decide +kernel, by decide +kernel, by decide +kernel⟩, wd3_146⟩
theorem mv_L_135 : MV RL 135 yX7_live cX7_live 8 (Option.some FieldType.long) 2 := ⟨⟨wd3_148, wd3_151, wd1_1, by decide +kernel, by decide +kernel, by decide +kernel⟩, wd3_149, wd3_150⟩
theorem mv_X7_260 : MV RX7 260 yX0_moneyOf cX0_moneyOf 4 (Option.some FieldType.long) 2 := ⟨⟨wd3_152, wd2_215, wd1_4, by decide +kernel, by decide +kernel, by decide +kernel⟩, wd2_213, wd2_214⟩
theorem mv_X7_264 : MV RX7 264 yX2_add cX2_add 7 (Option.none : Option FieldType) 5 := ⟨⟨wd3_153, wd3_156, wd1_9, by decide +kernel, by decide +kernel, by decide +kernel⟩, wd3_154, wd3_155⟩
theorem mv_L_139 : MV RL 139 yX7_row cX7_row 3 (Option.some FieldType.long) 2 := ⟨⟨wd3_157, wd3_160, wd1_1, by decide +kernel, by decide +kernel, by decide +kernel⟩, wd3_158, wd3_159⟩
theorem mv_X7_267 : MV RX7 267 yX2_fact cX2_fact 3 (Option.some FieldType.long) 2 := ⟨⟨wd3_161, wd3_164, wd1_9, by decide +kernel, by decide +kernel, by decide +kernel⟩, wd3_162, wd3_163⟩
theorem mv_L_143 : MV RL 143 yX7_forge cX7_forge 6 (Option.some FieldType.long) 3 := ⟨⟨wd3_165, wd3_168, wd1_1, by decide +kernel, by decide +kernel, by decide +kernel⟩, wd3_166, wd3_167⟩
theorem mv_L_147 : MV RL 147 yX7_check cX7_check 6 (Option.some FieldType.long) 0 := ⟨⟨wd3_169, wd3_172, wd1_1, by decide +kernel, by decide +kernel, by decide +kernel⟩, wd3_170, wd3_171⟩
theorem mv_X7_277 : MV RX7 277 yX2_firstWrong cX2_firstWrong 10 (Option.some FieldType.long) 3 := ⟨⟨wd3_173, wd3_176, wd1_9, by decide +kernel, by decide +kernel, by decide +kernel⟩, wd3_174, wd3_175⟩
theorem mv_X2_39 : MV RX2 39 yX6_priceOf cX6_priceOf 2 (Option.some FieldType.int) 1 := ⟨⟨wd3_178, wd2_101, wd1_3, by decide +kernel, by decide +kernel, by decide +kernel⟩, wd2_99, wd2_100⟩
theorem mv_X2_45 : MV RX2 45 yX0_moneyOf cX0_moneyOf 4 (Option.some FieldType.long) 2 := ⟨⟨wd3_179, wd2_215, wd1_4, by decide +kernel, by decide +kernel, by decide +kernel⟩, wd2_213, wd2_214⟩
theorem mv_L_151 : MV RL 151 yX7_shut cX7_shut 2 (Option.some FieldType.long) 0 := ⟨⟨wd3_181, wd3_184, wd1_1, by decide +kernel, by decide +kernel, by decide +kernel⟩, wd3_182, wd3_183⟩
theorem mv_L_155 : MV RL 155 yX7_warrant cX7_warrant 6 (Option.some FieldType.long) 2 := ⟨⟨wd3_185, wd3_188, wd1_1, by decide +kernel, by decide +kernel, by decide +kernel⟩, wd3_186, wd3_187⟩
theorem mv_L_159 : MV RL 159 yX7_voided cX7_voided 4 (Option.some FieldType.long) 1 := ⟨⟨wd3_190, wd3_193, wd1_1, by decide +kernel, by decide +kernel, by decide +kernel⟩, wd3_191, wd3_192⟩
theorem mv_X7_285 : MV RX7 285 yX2_firstBeyond cX2_firstBeyond 5 (Option.some FieldType.long) 2 := ⟨⟨wd3_194, wd3_197, wd1_9, by decide +kernel, by decide +kernel, by decide +kernel⟩, wd3_195, wd3_196⟩
theorem ms_X2_56 : MS RX2 56 yJ9_abs_0f7a4 cJ9_abs_0f7a4 1 (Option.some FieldType.int) 1 := ⟨⟨wd3_198, wd3_124, wd1_12, by decide +kernel, by decide +kernel, by decide +kernel⟩, wd3_123⟩
theorem mv_L_163 : MV RL 163 yX7_count cX7_count 2 (Option.some FieldType.long) 1 := ⟨⟨wd3_199, wd3_202, wd1_1, by decide +kernel, by decide +kernel, by decide +kernel⟩, wd3_200, wd3_201⟩
theorem mv_X7_288 : MV RX7 288 yX7_storesThere cX7_storesThere 3 (Option.some FieldType.int) 0 := ⟨⟨wd3_203, wd3_206, wd1_1, by decide +kernel, by decide +kernel, by decide +kernel⟩, wd3_205, wdp_13⟩
theorem mv_X7_292 : MV RX7 292 yX7_worldsThere cX7_worldsThere 3 (Option.some FieldType.int) 0 := ⟨⟨wd3_207, wd3_210, wd1_1, by decide +kernel, by decide +kernel, by decide +kernel⟩, wd3_209, wdp_14⟩
theorem mv_X7_295 : MV RX7 295 yX4_readingsThere cX4_readingsThere 3 (Option.some FieldType.int) 0 := ⟨⟨wd3_211, wd3_214, wd1_7, by decide +kernel, by decide +kernel, by decide +kernel⟩, wd3_212, wd3_213⟩
theorem mv_X7_298 : MV RX7 298 yX3_darkSteps cX3_darkSteps 3 (Option.some FieldType.int) 0 := ⟨⟨wd3_215, wd3_218, wd1_2, by decide +kernel, by decide +kernel, by decide +kernel⟩, wd3_216, wd3_217⟩
theorem mv_X7_301 : MV RX7 301 yX2_allMoney cX2_allMoney 4 (Option.some FieldType.long) 0 := ⟨⟨wd3_219, wd3_222, wd1_9, by decide +kernel, by decide +kernel, by decide +kernel⟩, wd3_220, wd3_221⟩
theorem mv_L_17 : MV RL 17 yX8_time cX8_time 4 (Option.some FieldType.long) 1 := ⟨⟨wd4_62, wd4_65, wd1_10, by decide +kernel, by decide +kernel, by decide +kernel⟩, wd4_63, wd4_64⟩
theorem ms_X8_81 : MS RX8 81 yX8_isIn cX8_isIn 6 (Option.some FieldType.boolean) 3 := ⟨⟨wd4_67, wd4_69, wd1_10, by decide +kernel, by decide +kernel, by decide +kernel⟩, wd4_68⟩
theorem mv_L_22 : MV RL 22 yX8_dark cX8_dark 4 (Option.some FieldType.long) 2 := ⟨⟨wd4_71, wd4_74, wd1_10, by decide +kernel, by decide +kernel, by decide +kernel⟩, wd4_72, wd4_73⟩
theorem mv_L_26 : MV RL 26 yX8_keep cX8_keep 5 (Option.some FieldType.long) 2 := ⟨⟨wd4_76, wd4_79, wd1_10, by decide +kernel, by decide +kernel, by decide +kernel⟩, wd4_77, wd4_78⟩
theorem mv_L_31 : MV RL 31 yX8_world cX8_world 5 (Option.some FieldType.long) 3 := ⟨⟨wd4_81, wd4_84, wd1_10, by decide +kernel, by decide +kernel, by decide +kernel⟩, wd4_82, wd4_83⟩
theorem ms_X8_96 : MS RX8 96 yX8_isWorld cX8_isWorld 1 (Option.some FieldType.boolean) 1 := ⟨⟨wd4_85, wd4_87, wd1_10, by decide +kernel, by decide +kernel, by decide +kernel⟩, wd4_86⟩
theorem mv_L_35 : MV RL 35 yX8_lose cX8_lose 4 (Option.some FieldType.long) 1 := ⟨⟨wd4_91, wd4_94, wd1_10, by decide +kernel, by decide +kernel, by decide +kernel⟩, wd4_92, wd4_93⟩
theorem mv_L_39 : MV RL 39 yX8_price cX8_price 7 (Option.some FieldType.long) 3 := ⟨⟨wd4_96, wd4_99, wd1_10, by decide +kernel, by decide +kernel, by decide +kernel⟩, wd4_97, wd4_98⟩
theorem mv_L_44 : MV RL 44 yX8_copy cX8_copy 7 (Option.some FieldType.long) 5 := ⟨⟨wd4_101, wd4_104, wd1_10, by decide +kernel, by decide +kernel, by decide +kernel⟩, wd4_102, wd4_103⟩
theorem mv_L_48 : MV RL 48 yX8_told cX8_told 3 (Option.some FieldType.long) 2 := ⟨⟨wd4_106, wd4_109, wd1_10, by decide +kernel, by decide +kernel, by decide +kernel⟩, wd4_107, wd4_108⟩
theorem mv_X8_110 : MV RX8 110 yX8_priceOf cX8_priceOf 3 (Option.some FieldType.int) 2 := ⟨⟨wd4_110, wd4_113, wd1_10, by decide +kernel, by decide +kernel, by decide +kernel⟩, wd4_112, wdp_15⟩
theorem mv_L_52 : MV RL 52 yX8_store cX8_store 9 (Option.some FieldType.long) 5 := ⟨⟨wd4_114, wd4_117, wd1_10, by decide +kernel, by decide +kernel, by decide +kernel⟩, wd4_115, wd4_116⟩
theorem ms_X8_124 : MS RX8 124 yX8_isStore cX8_isStore 1 (Option.some FieldType.boolean) 1 := ⟨⟨wd4_123, wd4_125, wd1_10, by decide +kernel, by decide +kernel, by decide +kernel⟩, wd4_124⟩
theorem mv_X8_132 : MV RX8 132 yX8_floorOf cX8_floorOf 2 (Option.some FieldType.int) 1 := ⟨⟨wd4_129, wd4_132, wd1_10, by decide +kernel, by decide +kernel, by decide +kernel⟩, wd4_131, wdp_16⟩
theorem mv_L_56 : MV RL 56 yX8_charge cX8_charge 7 (Option.some FieldType.long) 2 := ⟨⟨wd4_133, wd4_136, wd1_10, by decide +kernel, by decide +kernel, by decide +kernel⟩, wd4_134, wd4_135⟩
theorem mv_X8_142 : MV RX8 142 yX8_asked cX8_asked 2 (Option.some FieldType.long) 1 := ⟨⟨wd4_137, wd4_140, wd1_10, by decide +kernel, by decide +kernel, by decide +kernel⟩, wd4_139, wdp_17⟩
theorem mv_X8_146 : MV RX8 146 yX8_topOf cX8_topOf 2 (Option.some FieldType.int) 1 := ⟨⟨wd4_141, wd4_144, wd1_10, by decide +kernel, by decide +kernel, by decide +kernel⟩, wd4_143, wdp_18⟩
theorem mv_X8_139 : MV RX8 139 yX8_isOld cX8_isOld 2 (Option.some FieldType.boolean) 1 := ⟨⟨wd4_145, wd4_148, wd1_10, by decide +kernel, by decide +kernel, by decide +kernel⟩, wd4_147, wdp_19⟩
theorem mv_L_60 : MV RL 60 yX8_end cX8_end 5 (Option.some FieldType.long) 2 := ⟨⟨wd4_149, wd4_152, wd1_10, by decide +kernel, by decide +kernel, by decide +kernel⟩, wd4_150, wd4_151⟩
theorem mv_L_64 : MV RL 64 yX8_about cX8_about 3 (Option.some FieldType.long) 2 := ⟨⟨wd4_153, wd4_156, wd1_10, by decide +kernel, by decide +kernel, by decide +kernel⟩, wd4_154, wd4_155⟩
theorem mv_X8_149 : MV RX8 149 yX8_in cX8_in 2 (Option.some FieldType.int) 1 := ⟨⟨wd4_157, wd4_160, wd1_10, by decide +kernel, by decide +kernel, by decide +kernel⟩, wd4_159, wdp_20⟩
theorem mv_X8_136 : MV RX8 136 yX8_isQuick cX8_isQuick 2 (Option.some FieldType.boolean) 1 := ⟨⟨wd4_161, wd4_164, wd1_10, by decide +kernel, by decide +kernel, by decide +kernel⟩, wd4_163, wdp_21⟩
theorem mv_X8_152 : MV RX8 152 yX8_out cX8_out 2 (Option.some FieldType.int) 1 := ⟨⟨wd4_165, wd4_168, wd1_10, by decide +kernel, by decide +kernel, by decide +kernel⟩, wd4_167, wdp_22⟩
theorem mv_X8_155 : MV RX8 155 yX8_loss cX8_loss 2 (Option.some FieldType.int) 1 := ⟨⟨wd4_169, wd4_172, wd1_10, by decide +kernel, by decide +kernel, by decide +kernel⟩, wd4_171, wdp_23⟩
theorem mv_L_68 : MV RL 68 yX8_isOf cX8_isOf 4 (Option.some FieldType.long) 2 := ⟨⟨wd4_173, wd4_176, wd1_10, by decide +kernel, by decide +kernel, by decide +kernel⟩, wd4_174, wd4_175⟩
theorem mv_L_72 : MV RL 72 yX8_put cX8_put 8 (Option.some FieldType.long) 3 := ⟨⟨wd4_177, wd4_180, wd1_10, by decide +kernel, by decide +kernel, by decide +kernel⟩, wd4_178, wd4_179⟩
theorem mv_X8_158 : MV RX8 158 yX8_isStep cX8_isStep 2 (Option.some FieldType.boolean) 1 := ⟨⟨wd4_181, wd4_184, wd1_10, by decide +kernel, by decide +kernel, by decide +kernel⟩, wd4_183, wdp_24⟩
theorem mv_L_76 : MV RL 76 yX8_planned cX8_planned 5 (Option.some FieldType.long) 2 := ⟨⟨wd4_187, wd4_190, wd1_10, by decide +kernel, by decide +kernel, by decide +kernel⟩, wd4_188, wd4_189⟩
theorem mv_L_80 : MV RL 80 yX8_behind cX8_behind 5 (Option.some FieldType.long) 2 := ⟨⟨wd4_191, wd4_194, wd1_10, by decide +kernel, by decide +kernel, by decide +kernel⟩, wd4_192, wd4_193⟩
theorem mv_X8_165 : MV RX8 165 yX8_behindOf cX8_behindOf 5 (Option.some FieldType.int) 2 := ⟨⟨wd4_195, wd4_198, wd1_10, by decide +kernel, by decide +kernel, by decide +kernel⟩, wd4_197, wdp_25⟩
theorem mv_L_84 : MV RL 84 yX8_why cX8_why 4 (Option.some FieldType.long) 1 := ⟨⟨wd4_199, wd4_202, wd1_10, by decide +kernel, by decide +kernel, by decide +kernel⟩, wd4_200, wd4_201⟩
theorem mv_X8_177 : MV RX8 177 yX8_whyNot cX8_whyNot 4 (Option.some FieldType.long) 1 := ⟨⟨wd4_203, wd4_206, wd1_10, by decide +kernel, by decide +kernel, by decide +kernel⟩, wd4_205, wdp_26⟩
theorem mv_X8_171 : MV RX8 171 yX8_fault cX8_fault 6 (Option.some FieldType.int) 4 := ⟨⟨wd4_207, wd4_210, wd1_10, by decide +kernel, by decide +kernel, by decide +kernel⟩, wd4_209, wdp_27⟩
theorem mv_X8_168 : MV RX8 168 yX8_room cX8_room 2 (Option.some FieldType.int) 1 := ⟨⟨wd4_211, wd4_214, wd1_10, by decide +kernel, by decide +kernel, by decide +kernel⟩, wd4_213, wdp_28⟩
theorem mv_L_88 : MV RL 88 yX8_money cX8_money 3 (Option.some FieldType.long) 2 := ⟨⟨wd4_216, wd4_219, wd1_10, by decide +kernel, by decide +kernel, by decide +kernel⟩, wd4_217, wd4_218⟩
theorem mv_X8_184 : MV RX8 184 yX8_moneyIn cX8_moneyIn 6 (Option.some FieldType.long) 2 := ⟨⟨wd4_220, wd4_223, wd1_10, by decide +kernel, by decide +kernel, by decide +kernel⟩, wd4_222, wdp_29⟩
theorem mv_X8_180 : MV RX8 180 yX8_moneyOf cX8_moneyOf 4 (Option.some FieldType.long) 3 := ⟨⟨wd4_224, wd4_227, wd1_10, by decide +kernel, by decide +kernel, by decide +kernel⟩, wd4_226, wdp_30⟩
theorem mv_L_92 : MV RL 92 yX8_worst cX8_worst 9 (Option.some FieldType.long) 2 := ⟨⟨wd4_228, wd4_231, wd1_10, by decide +kernel, by decide +kernel, by decide +kernel⟩, wd4_229, wd4_230⟩
theorem ms_X8_190 : MS RX8 190 yX8_areWorlds cX8_areWorlds 1 (Option.some FieldType.boolean) 1 := ⟨⟨wd4_232, wd4_234, wd1_10, by decide +kernel, by decide +kernel, by decide +kernel⟩, wd4_233⟩
theorem mv_L_96 : MV RL 96 yX8_best cX8_best 6 (Option.some FieldType.long) 2 := ⟨⟨wd4_236, wd4_239, wd1_10, by decide +kernel, by decide +kernel, by decide +kernel⟩, wd4_237, wd4_238⟩
theorem mv_X8_207 : MV RX8 207 yX8_solve cX8_solve 12 (Option.none : Option FieldType) 2 := ⟨⟨wd5_0, wd5_3, wd1_10, by decide +kernel, by decide +kernel, by decide +kernel⟩, wd5_2, wdp_31⟩
theorem mv_X8_199 : MV RX8 199 yX8_with cX8_with 7 (Option.some FieldType.long) 5 := ⟨⟨wd5_5, wd5_8, wd1_10, by decide +kernel, by decide +kernel, by decide +kernel⟩, wd5_7, wdp_32⟩
theorem mv_X8_195 : MV RX8 195 yX8_moneyTogether cX8_moneyTogether 8 (Option.some FieldType.long) 4 := ⟨⟨wd5_9, wd5_12, wd1_10, by decide +kernel, by decide +kernel, by decide +kernel⟩, wd5_11, wdp_33⟩
theorem mv_L_100 : MV RL 100 yX8_many cX8_many 5 (Option.some FieldType.long) 2 := ⟨⟨wd5_15, wd5_18, wd1_10, by decide +kernel, by decide +kernel, by decide +kernel⟩, wd5_16, wd5_17⟩
theorem mv_L_105 : MV RL 105 yX8_value cX8_value 7 (Option.some FieldType.long) 4 := ⟨⟨wd5_19, wd5_22, wd1_10, by decide +kernel, by decide +kernel, by decide +kernel⟩, wd5_20, wd5_21⟩
theorem mv_L_109 : MV RL 109 yX8_bid cX8_bid 5 (Option.some FieldType.long) 4 := ⟨⟨wd5_23, wd5_26, wd1_10, by decide +kernel, by decide +kernel, by decide +kernel⟩, wd5_24, wd5_25⟩
theorem mv_L_114 : MV RL 114 yX8_unbid cX8_unbid 1 (Option.some FieldType.long) 0 := ⟨⟨wd5_31, wd5_34, wd1_10, by decide +kernel, by decide +kernel, by decide +kernel⟩, wd5_32, wd5_33⟩
theorem mv_L_118 : MV RL 118 yX8_taken cX8_taken 3 (Option.some FieldType.long) 2 := ⟨⟨wd5_35, wd5_38, wd1_10, by decide +kernel, by decide +kernel, by decide +kernel⟩, wd5_36, wd5_37⟩
theorem mv_X8_219 : MV RX8 219 yX8_isTaken cX8_isTaken 6 (Option.some FieldType.boolean) 2 := ⟨⟨wd5_39, wd5_42, wd1_10, by decide +kernel, by decide +kernel, by decide +kernel⟩, wd5_41, wdp_34⟩
theorem mv_L_122 : MV RL 122 yX8_wanted cX8_wanted 3 (Option.some FieldType.long) 2 := ⟨⟨wd5_43, wd5_46, wd1_10, by decide +kernel, by decide +kernel, by decide +kernel⟩, wd5_44, wd5_45⟩
theorem mv_X8_223 : MV RX8 223 yX8_wantedOf cX8_wantedOf 5 (Option.some FieldType.int) 2 := ⟨⟨wd5_47, wd5_50, wd1_10, by decide +kernel, by decide +kernel, by decide +kernel⟩, wd5_49, wdp_35⟩
theorem mv_L_126 : MV RL 126 yX8_fill cX8_fill 9 (Option.some FieldType.long) 2 := ⟨⟨wd5_51, wd5_54, wd1_10, by decide +kernel, by decide +kernel, by decide +kernel⟩, wd5_52, wd5_53⟩
theorem ms_X8_226 : MS RX8 226 yX8_between cX8_between 3 (Option.some FieldType.int) 3 := ⟨⟨wd5_55, wd5_57, wd1_10, by decide +kernel, by decide +kernel, by decide +kernel⟩, wd5_56⟩
theorem mv_L_130 : MV RL 130 yX8_meter cX8_meter 5 (Option.some FieldType.long) 2 := ⟨⟨wd5_58, wd5_61, wd1_10, by decide +kernel, by decide +kernel, by decide +kernel⟩, wd5_59, wd5_60⟩
theorem mv_L_134 : MV RL 134 yX8_counts cX8_counts 4 (Option.some FieldType.long) 1 := ⟨⟨wd5_64, wd5_67, wd1_10, by decide +kernel, by decide +kernel, by decide +kernel⟩, wd5_65, wd5_66⟩
theorem mv_X8_234 : MV RX8 234 yX8_nearest cX8_nearest 4 (Option.some FieldType.int) 2 := ⟨⟨wd5_68, wd5_71, wd1_10, by decide +kernel, by decide +kernel, by decide +kernel⟩, wd5_70, wdp_36⟩
theorem ms_X8_237 : MS RX8 237 yX8_cut cX8_cut 3 (Option.some FieldType.int) 2 := ⟨⟨wd5_72, wd5_74, wd1_10, by decide +kernel, by decide +kernel, by decide +kernel⟩, wd5_73⟩
theorem mv_L_138 : MV RL 138 yX8_live cX8_live 5 (Option.some FieldType.long) 2 := ⟨⟨wd5_75, wd5_78, wd1_10, by decide +kernel, by decide +kernel, by decide +kernel⟩, wd5_76, wd5_77⟩
theorem mv_L_142 : MV RL 142 yX8_row cX8_row 3 (Option.some FieldType.long) 2 := ⟨⟨wd5_79, wd5_82, wd1_10, by decide +kernel, by decide +kernel, by decide +kernel⟩, wd5_80, wd5_81⟩
theorem mv_L_146 : MV RL 146 yX8_forge cX8_forge 6 (Option.some FieldType.long) 3 := ⟨⟨wd5_83, wd5_86, wd1_10, by decide +kernel, by decide +kernel, by decide +kernel⟩, wd5_84, wd5_85⟩
theorem mv_L_150 : MV RL 150 yX8_check cX8_check 5 (Option.some FieldType.long) 0 := ⟨⟨wd5_87, wd5_90, wd1_10, by decide +kernel, by decide +kernel, by decide +kernel⟩, wd5_88, wd5_89⟩
theorem mv_X8_243 : MV RX8 243 yX8_ahead cX8_ahead 6 (Option.some FieldType.long) 1 := ⟨⟨wd5_91, wd5_94, wd1_10, by decide +kernel, by decide +kernel, by decide +kernel⟩, wd5_93, wdp_37⟩
theorem mv_L_154 : MV RL 154 yX8_shut cX8_shut 3 (Option.some FieldType.long) 0 := ⟨⟨wd5_95, wd5_98, wd1_10, by decide +kernel, by decide +kernel, by decide +kernel⟩, wd5_96, wd5_97⟩
theorem mv_L_158 : MV RL 158 yX8_warrant cX8_warrant 5 (Option.some FieldType.long) 2 := ⟨⟨wd5_99, wd5_102, wd1_10, by decide +kernel, by decide +kernel, by decide +kernel⟩, wd5_100, wd5_101⟩
theorem mv_L_162 : MV RL 162 yX8_voided cX8_voided 9 (Option.some FieldType.long) 1 := ⟨⟨wd5_104, wd5_107, wd1_10, by decide +kernel, by decide +kernel, by decide +kernel⟩, wd5_105, wd5_106⟩
theorem mv_L_166 : MV RL 166 yX8_count cX8_count 5 (Option.some FieldType.long) 1 := ⟨⟨wd5_108, wd5_111, wd1_10, by decide +kernel, by decide +kernel, by decide +kernel⟩, wd5_109, wd5_110⟩
theorem mn_X6_35 : MN RX6 35 yX7_within cX7_within 3 (Option.some FieldType.boolean) 3 := ⟨List.mem_of_getElem? (i := 0) rfl, wd2_30, wd1_1, by decide +kernel, wd2_29⟩
theorem mn_X5_144 : MN RX5 144 yX7_hasWorld cX7_hasWorld 2 (Option.some FieldType.boolean) 2 := ⟨List.mem_of_getElem? (i := 1) rfl, wd2_230, wd1_1, by decide +kernel, wd2_229⟩
theorem mn_X1_34 : MN RX1 34 yX7_within cX7_within 3 (Option.some FieldType.boolean) 3 := ⟨List.mem_of_getElem? (i := 2) rfl, wd2_30, wd1_1, by decide +kernel, wd2_29⟩
theorem mn_X2_52 : MN RX2 52 yX7_within cX7_within 3 (Option.some FieldType.boolean) 3 := ⟨List.mem_of_getElem? (i := 3) rfl, wd2_30, wd1_1, by decide +kernel, wd2_29⟩
end
section
theorem bIr {c : Prop} [Decidable c] : R32 (bI c) := ⟨by have := (bI_in (c := c)).1; omega, by have := (bI_in (c := c)).2; omega⟩
set_option maxRecDepth 100000 in
set_option maxHeartbeats 4000000 in
theorem c_X7_within (X : XW) (l : Launch) (σ : Mm) (z1 z2 z3 : Int) (h1 : R32 z1) (h2 : R32 z2) (h3 : R32 z3) : Ct X l yX7_within cX7_within 3 (Option.some FieldType.boolean) 0 0 σ [.inl z1, .inl z2, .inl z3] (Ans (some (.inl (bI (z2 ≤ z1 ∧ z1 ≤ z3)))) (σ)) := by
  refine Ct.intro (own := RX7) (by decide) rfl (Nat.le_of_ble_eq_true rfl) (fun M hM ok hq => ?_)
  subst hM
  have h1l := h1.1
  have h1r := h1.2
  have h2l := h2.1
  have h2r := h2.2
  have h3l := h3.1
  have h3r := h3.2
  show G X M cX7_within 3 σ 0 [(0, .inl z1), (1, .inl z2), (2, .inl z3)] []
  refine g_iload_n ok dX7_within_0 rfl rfl ?_
  refine g_iload_n ok dX7_within_1 rfl rfl ?_
  refine g_icmp_lt (tgt := 14) ok dX7_within_2 (by decide) ⟨by omega, by omega⟩ ⟨by omega, by omega⟩ (fun c1 => ?_) (fun c1 => ?_)
  · skip
    refine g_iconst (v := 0) ok dX7_within_14 (by decide +kernel) ?_
    exact g_zret ok hq dX7_within_15 (by omega) (by omega) (ansI (by first | (rw [bI_t (by omega)]) | (rw [bI_f (by omega)])) (by rfl))
  · skip
    refine g_iload_n ok dX7_within_5 rfl rfl ?_
    refine g_iload_n ok dX7_within_6 rfl rfl ?_
    refine g_icmp_gt (tgt := 14) ok dX7_within_7 (by decide) ⟨by omega, by omega⟩ ⟨by omega, by omega⟩ (fun c2 => ?_) (fun c2 => ?_)
    · skip
      refine g_iconst (v := 0) ok dX7_within_14 (by decide +kernel) ?_
      exact g_zret ok hq dX7_within_15 (by omega) (by omega) (ansI (by first | (rw [bI_t (by omega)]) | (rw [bI_f (by omega)])) (by rfl))
    · skip
      refine g_iconst (v := 1) ok dX7_within_10 (by decide +kernel) ?_
      refine g_goto (tgt := 15) ok dX7_within_11 (by decide) ?_
      exact g_zret ok hq dX7_within_15 (by omega) (by omega) (ansI (by first | (rw [bI_t (by omega)]) | (rw [bI_f (by omega)])) (by rfl))

set_option maxRecDepth 100000 in
set_option maxHeartbeats 4000000 in
theorem c_X7_isAnyStep (X : XW) (l : Launch) (σ : Mm) (z1 : Int) (h1 : R32 z1) : Ct X l yX7_isAnyStep cX7_isAnyStep 1 (Option.some FieldType.boolean) 1 22 σ [.inl z1] (Ans (some (.inl (bI (0 ≤ z1 ∧ z1 ≤ 35)))) (σ)) := by
  refine Ct.intro (own := RX7) (by decide) rfl (Nat.le_of_ble_eq_true rfl) (fun M hM ok hq => ?_)
  subst hM
  have h1l := h1.1
  have h1r := h1.2
  show G X M cX7_isAnyStep 1 σ 0 [(0, .inl z1)] []
  refine g_iload_n ok dX7_isAnyStep_0 rfl rfl ?_
  refine g_iconst (v := 0) ok dX7_isAnyStep_1 (by decide +kernel) ?_
  refine g_bipush (v := 35) ok dX7_isAnyStep_2 (by decide +kernel) ?_
  refine g_cS ok dX7_isAnyStep_4 ms_X7_60 (c_X7_within X _ _ _ _ _ ⟨by omega, by omega⟩ ⟨by omega, by omega⟩ ⟨by omega, by omega⟩) rfl (by decide) rfl (by decide) ?_
  exact g_zret ok hq dX7_isAnyStep_7 bI_in.1 bI_in.2 (ansI (by rfl) (by rfl))

set_option maxRecDepth 100000 in
set_option maxHeartbeats 4000000 in
theorem c_X7_isWorld (X : XW) (l : Launch) (σ : Mm) (z1 : Int) (h1 : R32 z1) : Ct X l yX7_isWorld cX7_isWorld 1 (Option.some FieldType.boolean) 1 22 σ [.inl z1] (Ans (some (.inl (bI (0 ≤ z1 ∧ z1 ≤ 3)))) (σ)) := by
  refine Ct.intro (own := RX7) (by decide) rfl (Nat.le_of_ble_eq_true rfl) (fun M hM ok hq => ?_)
  subst hM
  have h1l := h1.1
  have h1r := h1.2
  show G X M cX7_isWorld 1 σ 0 [(0, .inl z1)] []
  refine g_iload_n ok dX7_isWorld_0 rfl rfl ?_
  refine g_iconst (v := 0) ok dX7_isWorld_1 (by decide +kernel) ?_
  refine g_iconst (v := 3) ok dX7_isWorld_2 (by decide +kernel) ?_
  refine g_cS ok dX7_isWorld_3 ms_X7_60 (c_X7_within X _ _ _ _ _ ⟨by omega, by omega⟩ ⟨by omega, by omega⟩ ⟨by omega, by omega⟩) rfl (by decide) rfl (by decide) ?_
  exact g_zret ok hq dX7_isWorld_6 bI_in.1 bI_in.2 (ansI (by rfl) (by rfl))

set_option maxRecDepth 100000 in
set_option maxHeartbeats 4000000 in
theorem c_X7_areWorlds (X : XW) (l : Launch) (σ : Mm) (z1 : Int) (h1 : R32 z1) : Ct X l yX7_areWorlds cX7_areWorlds 1 (Option.some FieldType.boolean) 1 22 σ [.inl z1] (Ans (some (.inl (bI (1 ≤ z1 ∧ z1 ≤ 15)))) (σ)) := by
  refine Ct.intro (own := RX7) (by decide) rfl (Nat.le_of_ble_eq_true rfl) (fun M hM ok hq => ?_)
  subst hM
  have h1l := h1.1
  have h1r := h1.2
  show G X M cX7_areWorlds 1 σ 0 [(0, .inl z1)] []
  refine g_iload_n ok dX7_areWorlds_0 rfl rfl ?_
  refine g_iconst (v := 1) ok dX7_areWorlds_1 (by decide +kernel) ?_
  refine g_bipush (v := 15) ok dX7_areWorlds_2 (by decide +kernel) ?_
  refine g_cS ok dX7_areWorlds_4 ms_X7_60 (c_X7_within X _ _ _ _ _ ⟨by omega, by omega⟩ ⟨by omega, by omega⟩ ⟨by omega, by omega⟩) rfl (by decide) rfl (by decide) ?_
  exact g_zret ok hq dX7_areWorlds_7 bI_in.1 bI_in.2 (ansI (by rfl) (by rfl))

set_option maxRecDepth 100000 in
set_option maxHeartbeats 4000000 in
theorem c_X7_isBattery (X : XW) (l : Launch) (σ : Mm) (z1 : Int) (h1 : R32 z1) : Ct X l yX7_isBattery cX7_isBattery 1 (Option.some FieldType.boolean) 1 22 σ [.inl z1] (Ans (some (.inl (bI (0 ≤ z1 ∧ z1 ≤ 3)))) (σ)) := by
  refine Ct.intro (own := RX7) (by decide) rfl (Nat.le_of_ble_eq_true rfl) (fun M hM ok hq => ?_)
  subst hM
  have h1l := h1.1
  have h1r := h1.2
  show G X M cX7_isBattery 1 σ 0 [(0, .inl z1)] []
  refine g_iload_n ok dX7_isBattery_0 rfl rfl ?_
  refine g_iconst (v := 0) ok dX7_isBattery_1 (by decide +kernel) ?_
  refine g_iconst (v := 3) ok dX7_isBattery_2 (by decide +kernel) ?_
  refine g_cS ok dX7_isBattery_3 ms_X7_60 (c_X7_within X _ _ _ _ _ ⟨by omega, by omega⟩ ⟨by omega, by omega⟩ ⟨by omega, by omega⟩) rfl (by decide) rfl (by decide) ?_
  exact g_zret ok hq dX7_isBattery_6 bI_in.1 bI_in.2 (ansI (by rfl) (by rfl))

set_option maxRecDepth 100000 in
set_option maxHeartbeats 4000000 in
theorem c_X7_isKind (X : XW) (l : Launch) (σ : Mm) (z1 : Int) (h1 : R32 z1) : Ct X l yX7_isKind cX7_isKind 1 (Option.some FieldType.boolean) 1 22 σ [.inl z1] (Ans (some (.inl (bI (0 ≤ z1 ∧ z1 ≤ 4)))) (σ)) := by
  refine Ct.intro (own := RX7) (by decide) rfl (Nat.le_of_ble_eq_true rfl) (fun M hM ok hq => ?_)
  subst hM
  have h1l := h1.1
  have h1r := h1.2
  show G X M cX7_isKind 1 σ 0 [(0, .inl z1)] []
  refine g_iload_n ok dX7_isKind_0 rfl rfl ?_
  refine g_iconst (v := 0) ok dX7_isKind_1 (by decide +kernel) ?_
  refine g_iconst (v := 4) ok dX7_isKind_2 (by decide +kernel) ?_
  refine g_cS ok dX7_isKind_3 ms_X7_60 (c_X7_within X _ _ _ _ _ ⟨by omega, by omega⟩ ⟨by omega, by omega⟩ ⟨by omega, by omega⟩) rfl (by decide) rfl (by decide) ?_
  exact g_zret ok hq dX7_isKind_6 bI_in.1 bI_in.2 (ansI (by rfl) (by rfl))

set_option maxRecDepth 100000 in
set_option maxHeartbeats 4000000 in
theorem c_X8_isIn (X : XW) (l : Launch) (σ : Mm) (z1 z2 z3 : Int) (h1 : R64 z1) (h2 : R64 z2) (h3 : R64 z3) : Ct X l yX8_isIn cX8_isIn 6 (Option.some FieldType.boolean) 0 0 σ [.inr (.inl z1), .inr (.inl z2), .inr (.inl z3)] (Ans (some (.inl (bI (z2 ≤ z1 ∧ z1 ≤ z3)))) (σ)) := by
  refine Ct.intro (own := RX8) (by decide) rfl (Nat.le_of_ble_eq_true rfl) (fun M hM ok hq => ?_)
  subst hM
  have h1l := h1.1
  have h1r := h1.2
  have h2l := h2.1
  have h2r := h2.2
  have h3l := h3.1
  have h3r := h3.2
  show G X M cX8_isIn 6 σ 0 [(0, .inr (.inl z1)), (2, .inr (.inl z2)), (4, .inr (.inl z3))] []
  refine g_lload_n ok dX8_isIn_0 rfl rfl ?_
  refine g_lload_n ok dX8_isIn_1 rfl rfl ?_
  refine g_lcmp_lt (tgt := 17) ok dX8_isIn_2 dX8_isIn_3 (by decide) ⟨by omega, by omega⟩ ⟨by omega, by omega⟩ (fun c1 => ?_) (fun c1 => ?_)
  · skip
    refine g_iconst (v := 0) ok dX8_isIn_17 (by decide +kernel) ?_
    exact g_zret ok hq dX8_isIn_18 (by omega) (by omega) (ansI (by first | (rw [bI_t (by omega)]) | (rw [bI_f (by omega)])) (by rfl))
  · skip
    refine g_lload_n ok dX8_isIn_6 rfl rfl ?_
    refine g_lload ok dX8_isIn_7 rfl ?_
    refine g_lcmp_gt (tgt := 17) ok dX8_isIn_9 dX8_isIn_10 (by decide) ⟨by omega, by omega⟩ ⟨by omega, by omega⟩ (fun c2 => ?_) (fun c2 => ?_)
    · skip
      refine g_iconst (v := 0) ok dX8_isIn_17 (by decide +kernel) ?_
      exact g_zret ok hq dX8_isIn_18 (by omega) (by omega) (ansI (by first | (rw [bI_t (by omega)]) | (rw [bI_f (by omega)])) (by rfl))
    · skip
      refine g_iconst (v := 1) ok dX8_isIn_13 (by decide +kernel) ?_
      refine g_goto (tgt := 18) ok dX8_isIn_14 (by decide) ?_
      exact g_zret ok hq dX8_isIn_18 (by omega) (by omega) (ansI (by first | (rw [bI_t (by omega)]) | (rw [bI_f (by omega)])) (by rfl))

set_option maxRecDepth 100000 in
set_option maxHeartbeats 4000000 in
theorem c_X8_isWorld (X : XW) (l : Launch) (σ : Mm) (z1 : Int) (h1 : R32 z1) : Ct X l yX8_isWorld cX8_isWorld 1 (Option.some FieldType.boolean) 1 25 σ [.inl z1] (Ans (some (.inl (bI (0 ≤ z1 ∧ z1 ≤ 3)))) (σ)) := by
  refine Ct.intro (own := RX8) (by decide) rfl (Nat.le_of_ble_eq_true rfl) (fun M hM ok hq => ?_)
  subst hM
  have h1l := h1.1
  have h1r := h1.2
  show G X M cX8_isWorld 1 σ 0 [(0, .inl z1)] []
  refine g_iload_n ok dX8_isWorld_0 rfl rfl ?_
  refine g_i2l ok dX8_isWorld_1 ⟨by omega, by omega⟩ ?_
  refine g_lconst (v := 0) ok dX8_isWorld_2 (by decide +kernel) ?_
  refine g_ldc2 (v := 3) ok dX8_isWorld_3 wd4_88 (by decide +kernel) ?_
  refine g_cS ok dX8_isWorld_6 ms_X8_81 (c_X8_isIn X _ _ _ _ _ ⟨by omega, by omega⟩ ⟨by omega, by omega⟩ ⟨by omega, by omega⟩) rfl (by decide) rfl (by decide) ?_
  exact g_zret ok hq dX8_isWorld_9 bI_in.1 bI_in.2 (ansI (by rfl) (by rfl))

set_option maxRecDepth 100000 in
set_option maxHeartbeats 4000000 in
theorem c_X8_isStore (X : XW) (l : Launch) (σ : Mm) (z1 : Int) (h1 : R32 z1) : Ct X l yX8_isStore cX8_isStore 1 (Option.some FieldType.boolean) 1 25 σ [.inl z1] (Ans (some (.inl (bI (0 ≤ z1 ∧ z1 ≤ 3)))) (σ)) := by
  refine Ct.intro (own := RX8) (by decide) rfl (Nat.le_of_ble_eq_true rfl) (fun M hM ok hq => ?_)
  subst hM
  have h1l := h1.1
  have h1r := h1.2
  show G X M cX8_isStore 1 σ 0 [(0, .inl z1)] []
  refine g_iload_n ok dX8_isStore_0 rfl rfl ?_
  refine g_i2l ok dX8_isStore_1 ⟨by omega, by omega⟩ ?_
  refine g_lconst (v := 0) ok dX8_isStore_2 (by decide +kernel) ?_
  refine g_ldc2 (v := 3) ok dX8_isStore_3 wd4_88 (by decide +kernel) ?_
  refine g_cS ok dX8_isStore_6 ms_X8_81 (c_X8_isIn X _ _ _ _ _ ⟨by omega, by omega⟩ ⟨by omega, by omega⟩ ⟨by omega, by omega⟩) rfl (by decide) rfl (by decide) ?_
  exact g_zret ok hq dX8_isStore_9 bI_in.1 bI_in.2 (ansI (by rfl) (by rfl))

set_option maxRecDepth 100000 in
set_option maxHeartbeats 4000000 in
theorem c_X8_areWorlds (X : XW) (l : Launch) (σ : Mm) (z1 : Int) (h1 : R32 z1) : Ct X l yX8_areWorlds cX8_areWorlds 1 (Option.some FieldType.boolean) 1 25 σ [.inl z1] (Ans (some (.inl (bI (1 ≤ z1 ∧ z1 ≤ 15)))) (σ)) := by
  refine Ct.intro (own := RX8) (by decide) rfl (Nat.le_of_ble_eq_true rfl) (fun M hM ok hq => ?_)
  subst hM
  have h1l := h1.1
  have h1r := h1.2
  show G X M cX8_areWorlds 1 σ 0 [(0, .inl z1)] []
  refine g_iload_n ok dX8_areWorlds_0 rfl rfl ?_
  refine g_i2l ok dX8_areWorlds_1 ⟨by omega, by omega⟩ ?_
  refine g_lconst (v := 1) ok dX8_areWorlds_2 (by decide +kernel) ?_
  refine g_ldc2 (v := 15) ok dX8_areWorlds_3 wd4_235 (by decide +kernel) ?_
  refine g_cS ok dX8_areWorlds_6 ms_X8_81 (c_X8_isIn X _ _ _ _ _ ⟨by omega, by omega⟩ ⟨by omega, by omega⟩ ⟨by omega, by omega⟩) rfl (by decide) rfl (by decide) ?_
  exact g_zret ok hq dX8_areWorlds_9 bI_in.1 bI_in.2 (ansI (by rfl) (by rfl))

def BAD : Int := -9000000000000000001
def NO : Int := -9000000000000000002
def FULL : Int := -9000000000000000003
def NONE : Int := -9000000000000000005
def NOTHING : Int := -9000000000000000011
def INDEX : Int := -9000000000000000013
def SIZE : Int := -9000000000000000014
def rm_dark (σ : Mm) (z1 z2 : Int) : Int := if (0 ≤ z1 ∧ z1 ≤ 35) ∧ (0 ≤ z2 ∧ z2 ≤ 1) then σ 29 0 z1 else BAD
def sm_dark (σ : Mm) (z1 z2 : Int) : Mm := if (0 ≤ z1 ∧ z1 ≤ 35) ∧ (0 ≤ z2 ∧ z2 ≤ 1) then up σ 29 0 z1 z2 else σ
set_option maxRecDepth 100000 in
set_option maxHeartbeats 4000000 in
theorem c_X8_dark (X : XW) (l : Launch) (σ : Mm) (z1 z2 : Int) (h1 : R32 z1) (h2 : R32 z2) : Ct X l yX8_dark cX8_dark 4 (Option.some FieldType.long) 1 25 σ [.inr (.inr (28, 0)), .inl z1, .inl z2] (Ans (some (.inr (.inl (rm_dark σ z1 z2)))) (sm_dark σ z1 z2)) := by
  refine Ct.intro (own := RX8) (by decide) rfl (Nat.le_of_ble_eq_true rfl) (fun M hM ok hq => ?_)
  subst hM
  have h1l := h1.1
  have h1r := h1.2
  have h2l := h2.1
  have h2r := h2.2
  show G X M cX8_dark 4 σ 0 [(0, .inr (.inr (28, 0))), (1, .inl z1), (2, .inl z2)] []
  refine g_iload_n ok dX8_dark_0 rfl rfl ?_
  refine g_i2l ok dX8_dark_1 ⟨by omega, by omega⟩ ?_
  refine g_lconst (v := 0) ok dX8_dark_2 (by decide +kernel) ?_
  refine g_ldc2 (v := 35) ok dX8_dark_3 wd4_75 (by decide +kernel) ?_
  refine g_cS ok dX8_dark_6 ms_X8_81 (c_X8_isIn X _ _ _ _ _ ⟨by omega, by omega⟩ ⟨by omega, by omega⟩ ⟨by omega, by omega⟩) rfl (by decide) rfl (by decide) ?_
  refine g_ifb_eq (tgt := 22) ok dX8_dark_9 (by decide) (fun c1 => ?_) (fun c1 => ?_)
  · skip
    refine g_ldc2 (v := -9000000000000000001) ok dX8_dark_22 wd4_70 (by decide +kernel) ?_
    exact g_lret ok hq dX8_dark_25 (ansL (by unfold rm_dark BAD; split <;> omega) (by unfold sm_dark; split <;> first | rfl | (exfalso; omega) | (congr 1; omega)))
  · skip
    refine g_iload_n ok dX8_dark_12 rfl rfl ?_
    refine g_i2l ok dX8_dark_13 ⟨by omega, by omega⟩ ?_
    refine g_lconst (v := 0) ok dX8_dark_14 (by decide +kernel) ?_
    refine g_lconst (v := 1) ok dX8_dark_15 (by decide +kernel) ?_
    refine g_cS ok dX8_dark_16 ms_X8_81 (c_X8_isIn X _ _ _ _ _ ⟨by omega, by omega⟩ ⟨by omega, by omega⟩ ⟨by omega, by omega⟩) rfl (by decide) rfl (by decide) ?_
    refine g_ifb_ne (tgt := 26) ok dX8_dark_19 (by decide) (fun c2 => ?_) (fun c2 => ?_)
    · skip
      refine g_aload_n ok dX8_dark_26 rfl rfl ?_
      refine g_getr ok dX8_dark_27 fl_X8_13 (Vd.one rfl) rfl rfl ?_
      refine g_iload_n ok dX8_dark_30 rfl rfl ?_
      refine g_zald ok dX8_dark_31 (Vd.one rfl) (fun _ => rfl) ⟨by omega, by omega⟩ (by decide) rfl (fun h3 h4 => ?_)
      refine g_istore_n ok dX8_dark_32 rfl (Nat.le_of_ble_eq_true rfl) ?_
      refine g_aload_n ok dX8_dark_33 rfl rfl ?_
      refine g_getr ok dX8_dark_34 fl_X8_13 (Vd.one rfl) rfl rfl ?_
      refine g_iload_n ok dX8_dark_37 rfl rfl ?_
      refine g_iload_n ok dX8_dark_38 rfl rfl ?_
      refine g_iconst (v := 1) ok dX8_dark_39 (by decide +kernel) ?_
      refine g_icmp_ne (tgt := 47) ok dX8_dark_40 (by decide) ⟨by omega, by omega⟩ ⟨by omega, by omega⟩ (fun c5 => ?_) (fun c5 => ?_)
      · skip
        refine g_iconst (v := 0) ok dX8_dark_47 (by decide +kernel) ?_
        refine g_zast ok dX8_dark_48 (Vd.one rfl) (fun _ => rfl) ⟨by omega, by omega⟩ (by decide) rfl (by omega) (by omega) ?_
        refine g_iload_n ok dX8_dark_49 rfl rfl ?_
        refine g_if_eq (tgt := 57) ok dX8_dark_50 (by decide) ⟨by omega, by omega⟩ (fun c6 => ?_) (fun c6 => ?_)
        · skip
          refine g_lconst (v := 0) ok dX8_dark_57 (by decide +kernel) ?_
          exact g_lret ok hq dX8_dark_58 (ansL (by unfold rm_dark BAD; split <;> omega) (by unfold sm_dark; split <;> first | rfl | (exfalso; omega) | (congr 1; omega)))
        · skip
          refine g_lconst (v := 1) ok dX8_dark_53 (by decide +kernel) ?_
          refine g_goto (tgt := 58) ok dX8_dark_54 (by decide) ?_
          exact g_lret ok hq dX8_dark_58 (ansL (by unfold rm_dark BAD; split <;> omega) (by unfold sm_dark; split <;> first | rfl | (exfalso; omega) | (congr 1; omega)))
      · skip
        refine g_iconst (v := 1) ok dX8_dark_43 (by decide +kernel) ?_
        refine g_goto (tgt := 48) ok dX8_dark_44 (by decide) ?_
        refine g_zast ok dX8_dark_48 (Vd.one rfl) (fun _ => rfl) ⟨by omega, by omega⟩ (by decide) rfl (by omega) (by omega) ?_
        refine g_iload_n ok dX8_dark_49 rfl rfl ?_
        refine g_if_eq (tgt := 57) ok dX8_dark_50 (by decide) ⟨by omega, by omega⟩ (fun c7 => ?_) (fun c7 => ?_)
        · skip
          refine g_lconst (v := 0) ok dX8_dark_57 (by decide +kernel) ?_
          exact g_lret ok hq dX8_dark_58 (ansL (by unfold rm_dark BAD; split <;> omega) (by unfold sm_dark; split <;> first | rfl | (exfalso; omega) | (congr 1; omega)))
        · skip
          refine g_lconst (v := 1) ok dX8_dark_53 (by decide +kernel) ?_
          refine g_goto (tgt := 58) ok dX8_dark_54 (by decide) ?_
          exact g_lret ok hq dX8_dark_58 (ansL (by unfold rm_dark BAD; split <;> omega) (by unfold sm_dark; split <;> first | rfl | (exfalso; omega) | (congr 1; omega)))
    · skip
      refine g_ldc2 (v := -9000000000000000001) ok dX8_dark_22 wd4_70 (by decide +kernel) ?_
      exact g_lret ok hq dX8_dark_25 (ansL (by unfold rm_dark BAD; split <;> omega) (by unfold sm_dark; split <;> first | rfl | (exfalso; omega) | (congr 1; omega)))
end

-- ===== PART A: goes FIRST, ahead of the names: the tables' words, and 'selects' of the private methods out of them =====
/-- a private method of a class that the tables say can be made, by its rows of tables_1 -/
def lw_okq (q : MethodName × Nat) : Prop := (q.1.cls ≠ "java/lang/invoke/MethodHandle" ∧ q.1.cls ≠ "java/lang/invoke/VarHandle") ∧ Cond.instantiable q.1.cls q.2 ∈ tables_1 ∧ Cond.privateMethod q.1 ∈ tables_1 ∧ Cond.instanceMethod q.1 ∈ tables_1
theorem lw_p0 : lw_okq (⟨"java/util/ArrayList", "add", "(Ljava/lang/Object;[Ljava/lang/Object;I)V"⟩, 3) := ⟨⟨by decide +kernel, by decide +kernel⟩, List.mem_of_getElem? (i := 25) (by decide +kernel), List.mem_of_getElem? (i := 182) (by decide +kernel), List.mem_of_getElem? (i := 183) (by decide +kernel)⟩
theorem lw_p1 : lw_okq (⟨"java/util/ArrayList", "grow", "()[Ljava/lang/Object;"⟩, 3) := ⟨⟨by decide +kernel, by decide +kernel⟩, List.mem_of_getElem? (i := 25) (by decide +kernel), List.mem_of_getElem? (i := 186) (by decide +kernel), List.mem_of_getElem? (i := 187) (by decide +kernel)⟩
theorem lw_p2 : lw_okq (⟨"java/util/ArrayList", "grow", "(I)[Ljava/lang/Object;"⟩, 3) := ⟨⟨by decide +kernel, by decide +kernel⟩, List.mem_of_getElem? (i := 25) (by decide +kernel), List.mem_of_getElem? (i := 190) (by decide +kernel), List.mem_of_getElem? (i := 191) (by decide +kernel)⟩
theorem lw_p3 : lw_okq (⟨"ArenaNetwork", "tensorAt", "(I)LArenaNetwork$Tensor;"⟩, 6) := ⟨⟨by decide +kernel, by decide +kernel⟩, List.mem_of_getElem? (i := 17) (by decide +kernel), List.mem_of_getElem? (i := 236) (by decide +kernel), List.mem_of_getElem? (i := 237) (by decide +kernel)⟩
theorem lw_p4 : lw_okq (⟨"ArenaNetwork", "firstFault", "()I"⟩, 6) := ⟨⟨by decide +kernel, by decide +kernel⟩, List.mem_of_getElem? (i := 17) (by decide +kernel), List.mem_of_getElem? (i := 303) (by decide +kernel), List.mem_of_getElem? (i := 304) (by decide +kernel)⟩
theorem lw_p5 : lw_okq (⟨"ArenaNetwork", "faultOf", "(I)I"⟩, 6) := ⟨⟨by decide +kernel, by decide +kernel⟩, List.mem_of_getElem? (i := 17) (by decide +kernel), List.mem_of_getElem? (i := 307) (by decide +kernel), List.mem_of_getElem? (i := 308) (by decide +kernel)⟩
theorem lw_p6 : lw_okq (⟨"ArenaNetwork", "isUnmadeBefore", "(ILArenaNetwork$Tensor;)Z"⟩, 6) := ⟨⟨by decide +kernel, by decide +kernel⟩, List.mem_of_getElem? (i := 17) (by decide +kernel), List.mem_of_getElem? (i := 311) (by decide +kernel), List.mem_of_getElem? (i := 312) (by decide +kernel)⟩
theorem lw_p7 : lw_okq (⟨"ArenaNetwork", "giveLives", "()V"⟩, 6) := ⟨⟨by decide +kernel, by decide +kernel⟩, List.mem_of_getElem? (i := 17) (by decide +kernel), List.mem_of_getElem? (i := 320) (by decide +kernel), List.mem_of_getElem? (i := 321) (by decide +kernel)⟩
theorem lw_p8 : lw_okq (⟨"ArenaNetwork$Arena", "put", "(LArenaNetwork$Tensor;)V"⟩, 2) := ⟨⟨by decide +kernel, by decide +kernel⟩, List.mem_of_getElem? (i := 53) (by decide +kernel), List.mem_of_getElem? (i := 344) (by decide +kernel), List.mem_of_getElem? (i := 345) (by decide +kernel)⟩
theorem lw_p9 : lw_okq (⟨"ArenaNetwork$Arena", "leastPlace", "(LArenaNetwork$Tensor;)I"⟩, 2) := ⟨⟨by decide +kernel, by decide +kernel⟩, List.mem_of_getElem? (i := 53) (by decide +kernel), List.mem_of_getElem? (i := 348) (by decide +kernel), List.mem_of_getElem? (i := 349) (by decide +kernel)⟩
theorem lw_p10 : lw_okq (⟨"ArenaNetwork$Arena", "isFree", "(LArenaNetwork$Tensor;I)Z"⟩, 2) := ⟨⟨by decide +kernel, by decide +kernel⟩, List.mem_of_getElem? (i := 53) (by decide +kernel), List.mem_of_getElem? (i := 352) (by decide +kernel), List.mem_of_getElem? (i := 353) (by decide +kernel)⟩
theorem lw_p11 : lw_okq (⟨"ArenaNetwork", "doNext", "()V"⟩, 6) := ⟨⟨by decide +kernel, by decide +kernel⟩, List.mem_of_getElem? (i := 17) (by decide +kernel), List.mem_of_getElem? (i := 379) (by decide +kernel), List.mem_of_getElem? (i := 380) (by decide +kernel)⟩
theorem lw_p12 : lw_okq (⟨"ArenaNetwork$Operator", "resultCell", "(ILArenaNetwork$Scale;)I"⟩, 5) := ⟨⟨by decide +kernel, by decide +kernel⟩, List.mem_of_getElem? (i := 269) (by decide +kernel), List.mem_of_getElem? (i := 387) (by decide +kernel), List.mem_of_getElem? (i := 388) (by decide +kernel)⟩
theorem lw_p13 : lw_okq (⟨"ArenaNetwork$Operator", "denseSum", "(I)I"⟩, 5) := ⟨⟨by decide +kernel, by decide +kernel⟩, List.mem_of_getElem? (i := 269) (by decide +kernel), List.mem_of_getElem? (i := 391) (by decide +kernel), List.mem_of_getElem? (i := 392) (by decide +kernel)⟩
theorem lw_p14 : lw_okq (⟨"ArenaNetwork$Operator", "clampedResult", "(I)I"⟩, 5) := ⟨⟨by decide +kernel, by decide +kernel⟩, List.mem_of_getElem? (i := 269) (by decide +kernel), List.mem_of_getElem? (i := 411) (by decide +kernel), List.mem_of_getElem? (i := 412) (by decide +kernel)⟩
theorem lw_p15 : lw_okq (⟨"ArenaNetwork$Operator", "greatestOfGroup", "(I)I"⟩, 5) := ⟨⟨by decide +kernel, by decide +kernel⟩, List.mem_of_getElem? (i := 269) (by decide +kernel), List.mem_of_getElem? (i := 417) (by decide +kernel), List.mem_of_getElem? (i := 418) (by decide +kernel)⟩
def lw_privs_1 : List (MethodName × Nat) := [(⟨"java/util/ArrayList", "add", "(Ljava/lang/Object;[Ljava/lang/Object;I)V"⟩, 3), (⟨"java/util/ArrayList", "grow", "()[Ljava/lang/Object;"⟩, 3), (⟨"java/util/ArrayList", "grow", "(I)[Ljava/lang/Object;"⟩, 3), (⟨"ArenaNetwork", "tensorAt", "(I)LArenaNetwork$Tensor;"⟩, 6), (⟨"ArenaNetwork", "firstFault", "()I"⟩, 6), (⟨"ArenaNetwork", "faultOf", "(I)I"⟩, 6), (⟨"ArenaNetwork", "isUnmadeBefore", "(ILArenaNetwork$Tensor;)Z"⟩, 6), (⟨"ArenaNetwork", "giveLives", "()V"⟩, 6), (⟨"ArenaNetwork$Arena", "put", "(LArenaNetwork$Tensor;)V"⟩, 2), (⟨"ArenaNetwork$Arena", "leastPlace", "(LArenaNetwork$Tensor;)I"⟩, 2), (⟨"ArenaNetwork$Arena", "isFree", "(LArenaNetwork$Tensor;I)Z"⟩, 2), (⟨"ArenaNetwork", "doNext", "()V"⟩, 6), (⟨"ArenaNetwork$Operator", "resultCell", "(ILArenaNetwork$Scale;)I"⟩, 5), (⟨"ArenaNetwork$Operator", "denseSum", "(I)I"⟩, 5), (⟨"ArenaNetwork$Operator", "clampedResult", "(I)I"⟩, 5), (⟨"ArenaNetwork$Operator", "greatestOfGroup", "(I)I"⟩, 5)]
theorem lw_r1 : ∀ q ∈ lw_privs_1, lw_okq q := List.forall_mem_cons.mpr ⟨lw_p0, List.forall_mem_cons.mpr ⟨lw_p1, List.forall_mem_cons.mpr ⟨lw_p2, List.forall_mem_cons.mpr ⟨lw_p3, List.forall_mem_cons.mpr ⟨lw_p4, List.forall_mem_cons.mpr ⟨lw_p5, List.forall_mem_cons.mpr ⟨lw_p6, List.forall_mem_cons.mpr ⟨lw_p7, List.forall_mem_cons.mpr ⟨lw_p8, List.forall_mem_cons.mpr ⟨lw_p9, List.forall_mem_cons.mpr ⟨lw_p10, List.forall_mem_cons.mpr ⟨lw_p11, List.forall_mem_cons.mpr ⟨lw_p12, List.forall_mem_cons.mpr ⟨lw_p13, List.forall_mem_cons.mpr ⟨lw_p14, List.forall_mem_cons.mpr ⟨lw_p15, fun _ h => absurd h List.not_mem_nil⟩⟩⟩⟩⟩⟩⟩⟩⟩⟩⟩⟩⟩⟩⟩⟩
theorem lw_p16 : lw_okq (⟨"ArenaNetwork$Operator", "sumOfGroup", "(I)I"⟩, 5) := ⟨⟨by decide +kernel, by decide +kernel⟩, List.mem_of_getElem? (i := 269) (by decide +kernel), List.mem_of_getElem? (i := 421) (by decide +kernel), List.mem_of_getElem? (i := 422) (by decide +kernel)⟩
theorem lw_p17 : lw_okq (⟨"ArenaNetwork", "livingTensorAt", "(I)LArenaNetwork$Tensor;"⟩, 6) := ⟨⟨by decide +kernel, by decide +kernel⟩, List.mem_of_getElem? (i := 17) (by decide +kernel), List.mem_of_getElem? (i := 442) (by decide +kernel), List.mem_of_getElem? (i := 443) (by decide +kernel)⟩
theorem lw_p18 : lw_okq (⟨"ArenaNetworkModel", "noByte", "(I)Z"⟩, 19) := ⟨⟨by decide +kernel, by decide +kernel⟩, List.mem_of_getElem? (i := 469) (by decide +kernel), List.mem_of_getElem? (i := 539) (by decide +kernel), List.mem_of_getElem? (i := 540) (by decide +kernel)⟩
theorem lw_p19 : lw_okq (⟨"ArenaNetworkModel", "noTensor", "(I)Z"⟩, 19) := ⟨⟨by decide +kernel, by decide +kernel⟩, List.mem_of_getElem? (i := 469) (by decide +kernel), List.mem_of_getElem? (i := 547) (by decide +kernel), List.mem_of_getElem? (i := 548) (by decide +kernel)⟩
theorem lw_p20 : lw_okq (⟨"ArenaNetworkModel", "lives", "(I)Z"⟩, 19) := ⟨⟨by decide +kernel, by decide +kernel⟩, List.mem_of_getElem? (i := 469) (by decide +kernel), List.mem_of_getElem? (i := 567) (by decide +kernel), List.mem_of_getElem? (i := 568) (by decide +kernel)⟩
theorem lw_p21 : lw_okq (⟨"ArenaNetworkModel", "maker", "(II)I"⟩, 19) := ⟨⟨by decide +kernel, by decide +kernel⟩, List.mem_of_getElem? (i := 469) (by decide +kernel), List.mem_of_getElem? (i := 571) (by decide +kernel), List.mem_of_getElem? (i := 572) (by decide +kernel)⟩
theorem lw_p22 : lw_okq (⟨"ArenaNetworkModel", "fault", "(I)I"⟩, 19) := ⟨⟨by decide +kernel, by decide +kernel⟩, List.mem_of_getElem? (i := 469) (by decide +kernel), List.mem_of_getElem? (i := 579) (by decide +kernel), List.mem_of_getElem? (i := 580) (by decide +kernel)⟩
theorem lw_p23 : lw_okq (⟨"ArenaNetworkModel", "unmade", "(II)Z"⟩, 19) := ⟨⟨by decide +kernel, by decide +kernel⟩, List.mem_of_getElem? (i := 469) (by decide +kernel), List.mem_of_getElem? (i := 583) (by decide +kernel), List.mem_of_getElem? (i := 584) (by decide +kernel)⟩
theorem lw_p24 : lw_okq (⟨"ArenaNetworkModel", "fits", "(I)Z"⟩, 19) := ⟨⟨by decide +kernel, by decide +kernel⟩, List.mem_of_getElem? (i := 469) (by decide +kernel), List.mem_of_getElem? (i := 587) (by decide +kernel), List.mem_of_getElem? (i := 588) (by decide +kernel)⟩
theorem lw_p25 : lw_okq (⟨"ArenaNetworkModel", "apart", "(III)Z"⟩, 19) := ⟨⟨by decide +kernel, by decide +kernel⟩, List.mem_of_getElem? (i := 469) (by decide +kernel), List.mem_of_getElem? (i := 592) (by decide +kernel), List.mem_of_getElem? (i := 593) (by decide +kernel)⟩
theorem lw_p26 : lw_okq (⟨"ArenaNetworkModel", "begin", "(I)I"⟩, 19) := ⟨⟨by decide +kernel, by decide +kernel⟩, List.mem_of_getElem? (i := 469) (by decide +kernel), List.mem_of_getElem? (i := 596) (by decide +kernel), List.mem_of_getElem? (i := 597) (by decide +kernel)⟩
theorem lw_p27 : lw_okq (⟨"ArenaNetworkModel", "end", "(I)I"⟩, 19) := ⟨⟨by decide +kernel, by decide +kernel⟩, List.mem_of_getElem? (i := 469) (by decide +kernel), List.mem_of_getElem? (i := 600) (by decide +kernel), List.mem_of_getElem? (i := 601) (by decide +kernel)⟩
theorem lw_p28 : lw_okq (⟨"ArenaNetworkModel", "arena", "()I"⟩, 19) := ⟨⟨by decide +kernel, by decide +kernel⟩, List.mem_of_getElem? (i := 469) (by decide +kernel), List.mem_of_getElem? (i := 604) (by decide +kernel), List.mem_of_getElem? (i := 605) (by decide +kernel)⟩
theorem lw_p29 : lw_okq (⟨"ArenaNetworkModel", "made", "(II)I"⟩, 19) := ⟨⟨by decide +kernel, by decide +kernel⟩, List.mem_of_getElem? (i := 469) (by decide +kernel), List.mem_of_getElem? (i := 620) (by decide +kernel), List.mem_of_getElem? (i := 621) (by decide +kernel)⟩
theorem lw_p30 : lw_okq (⟨"ArenaNetworkModel", "difference", "(II)I"⟩, 19) := ⟨⟨by decide +kernel, by decide +kernel⟩, List.mem_of_getElem? (i := 469) (by decide +kernel), List.mem_of_getElem? (i := 624) (by decide +kernel), List.mem_of_getElem? (i := 625) (by decide +kernel)⟩
theorem lw_p31 : lw_okq (⟨"ArenaNetworkModel", "scaling", "(II)I"⟩, 19) := ⟨⟨by decide +kernel, by decide +kernel⟩, List.mem_of_getElem? (i := 469) (by decide +kernel), List.mem_of_getElem? (i := 628) (by decide +kernel), List.mem_of_getElem? (i := 629) (by decide +kernel)⟩
def lw_privs_2 : List (MethodName × Nat) := [(⟨"ArenaNetwork$Operator", "sumOfGroup", "(I)I"⟩, 5), (⟨"ArenaNetwork", "livingTensorAt", "(I)LArenaNetwork$Tensor;"⟩, 6), (⟨"ArenaNetworkModel", "noByte", "(I)Z"⟩, 19), (⟨"ArenaNetworkModel", "noTensor", "(I)Z"⟩, 19), (⟨"ArenaNetworkModel", "lives", "(I)Z"⟩, 19), (⟨"ArenaNetworkModel", "maker", "(II)I"⟩, 19), (⟨"ArenaNetworkModel", "fault", "(I)I"⟩, 19), (⟨"ArenaNetworkModel", "unmade", "(II)Z"⟩, 19), (⟨"ArenaNetworkModel", "fits", "(I)Z"⟩, 19), (⟨"ArenaNetworkModel", "apart", "(III)Z"⟩, 19), (⟨"ArenaNetworkModel", "begin", "(I)I"⟩, 19), (⟨"ArenaNetworkModel", "end", "(I)I"⟩, 19), (⟨"ArenaNetworkModel", "arena", "()I"⟩, 19), (⟨"ArenaNetworkModel", "made", "(II)I"⟩, 19), (⟨"ArenaNetworkModel", "difference", "(II)I"⟩, 19), (⟨"ArenaNetworkModel", "scaling", "(II)I"⟩, 19)]
theorem lw_r2 : ∀ q ∈ lw_privs_2, lw_okq q := List.forall_mem_cons.mpr ⟨lw_p16, List.forall_mem_cons.mpr ⟨lw_p17, List.forall_mem_cons.mpr ⟨lw_p18, List.forall_mem_cons.mpr ⟨lw_p19, List.forall_mem_cons.mpr ⟨lw_p20, List.forall_mem_cons.mpr ⟨lw_p21, List.forall_mem_cons.mpr ⟨lw_p22, List.forall_mem_cons.mpr ⟨lw_p23, List.forall_mem_cons.mpr ⟨lw_p24, List.forall_mem_cons.mpr ⟨lw_p25, List.forall_mem_cons.mpr ⟨lw_p26, List.forall_mem_cons.mpr ⟨lw_p27, List.forall_mem_cons.mpr ⟨lw_p28, List.forall_mem_cons.mpr ⟨lw_p29, List.forall_mem_cons.mpr ⟨lw_p30, List.forall_mem_cons.mpr ⟨lw_p31, fun _ h => absurd h List.not_mem_nil⟩⟩⟩⟩⟩⟩⟩⟩⟩⟩⟩⟩⟩⟩⟩⟩
theorem lw_p32 : lw_okq (⟨"ArenaNetworkModel", "rounded", "(JJ)J"⟩, 19) := ⟨⟨by decide +kernel, by decide +kernel⟩, List.mem_of_getElem? (i := 469) (by decide +kernel), List.mem_of_getElem? (i := 633) (by decide +kernel), List.mem_of_getElem? (i := 634) (by decide +kernel)⟩
theorem lw_p33 : lw_okq (⟨"ArenaNetworkModel", "clamped", "(I)I"⟩, 19) := ⟨⟨by decide +kernel, by decide +kernel⟩, List.mem_of_getElem? (i := 469) (by decide +kernel), List.mem_of_getElem? (i := 638) (by decide +kernel), List.mem_of_getElem? (i := 639) (by decide +kernel)⟩
theorem lw_p34 : lw_okq (⟨"ArenaNetworkModel", "window", "(IIIZ)I"⟩, 19) := ⟨⟨by decide +kernel, by decide +kernel⟩, List.mem_of_getElem? (i := 469) (by decide +kernel), List.mem_of_getElem? (i := 642) (by decide +kernel), List.mem_of_getElem? (i := 643) (by decide +kernel)⟩
def lw_privs_3 : List (MethodName × Nat) := [(⟨"ArenaNetworkModel", "rounded", "(JJ)J"⟩, 19), (⟨"ArenaNetworkModel", "clamped", "(I)I"⟩, 19), (⟨"ArenaNetworkModel", "window", "(IIIZ)I"⟩, 19)]
theorem lw_r3 : ∀ q ∈ lw_privs_3, lw_okq q := List.forall_mem_cons.mpr ⟨lw_p32, List.forall_mem_cons.mpr ⟨lw_p33, List.forall_mem_cons.mpr ⟨lw_p34, fun _ h => absurd h List.not_mem_nil⟩⟩⟩
def lw_privs : List (MethodName × Nat) := lw_privs_1 ++ (lw_privs_2 ++ (lw_privs_3))
def lw_tbl : List Cond := k2_sels lw_privs ++ tables_1
theorem lw_privs_ok : ∀ q ∈ lw_privs, lw_okq q := by
  show ∀ q ∈ lw_privs_1 ++ (lw_privs_2 ++ (lw_privs_3)), lw_okq q
  exact List.forall_mem_append.mpr ⟨lw_r1, List.forall_mem_append.mpr ⟨lw_r2, lw_r3⟩⟩
def TN : u_T := fun k => match k with
  | 0 => ("ArenaNetwork", "tensors", "Ljava/util/ArrayList;", true)
  | 1 => ("ArenaNetwork", "operators", "Ljava/util/ArrayList;", true)
  | 2 => ("ArenaNetwork", "scales", "[LArenaNetwork$Scale;", true)
  | 3 => ("ArenaNetwork", "arena", "LArenaNetwork$Arena;", true)
  | 4 => ("ArenaNetwork", "prepared", "Z", false)
  | _ => ("ArenaNetwork", "done", "I", false)
def tyN : Nat → FieldType := fun k => match k with
  | 0 => .object "java/util/ArrayList"
  | 1 => .object "java/util/ArrayList"
  | 2 => .array (.object "ArenaNetwork$Scale")
  | 3 => .object "ArenaNetwork$Arena"
  | 4 => .boolean
  | _ => .int
theorem nmN : ∀ a, a < 6 → ∀ b, b < 6 → a ≠ b → (TN a).2.1 ≠ (TN b).2.1 := by decide +kernel
theorem tkN : ∀ k, k < 6 → parseFieldDescriptor (TN k).2.2.1 = some (tyN k) := by decide +kernel
abbrev dfN : List Value := [.null, .null, .null, .null, .int 0, .int 0]
theorem doN : ∀ j, j < 6 → defaultValue (tyN j) = vp_V dfN j := by
  intro j hj
  rcases (show j = 0 ∨ j = 1 ∨ j = 2 ∨ j = 3 ∨ j = 4 ∨ j = 5 by omega) with rfl | rfl | rfl | rfl | rfl | rfl <;> rfl
def TA : u_T := fun k => match k with
  | 0 => ("ArenaNetwork$Arena", "order", "Ljava/util/ArrayList;", true)
  | _ => ("ArenaNetwork$Arena", "length", "I", false)
def tyA : Nat → FieldType := fun k => match k with
  | 0 => .object "java/util/ArrayList"
  | _ => .int
theorem nmA : ∀ a, a < 2 → ∀ b, b < 2 → a ≠ b → (TA a).2.1 ≠ (TA b).2.1 := by decide +kernel
theorem tkA : ∀ k, k < 2 → parseFieldDescriptor (TA k).2.2.1 = some (tyA k) := by decide +kernel
abbrev dfA : List Value := [.null, .int 0]
theorem doA : ∀ j, j < 2 → defaultValue (tyA j) = vp_V dfA j := by
  intro j hj
  rcases (show j = 0 ∨ j = 1 by omega) with rfl | rfl <;> rfl
def TO : u_T := fun k => match k with
  | 0 => ("ArenaNetwork$Operator", "kind", "I", true)
  | 1 => ("ArenaNetwork$Operator", "a", "LArenaNetwork$Tensor;", true)
  | 2 => ("ArenaNetwork$Operator", "b", "LArenaNetwork$Tensor;", true)
  | 3 => ("ArenaNetwork$Operator", "\x72", "LArenaNetwork$Tensor;", true)
  | _ => ("ArenaNetwork$Operator", "p", "I", true)
def tyO : Nat → FieldType := fun k => match k with
  | 0 => .int
  | 1 => .object "ArenaNetwork$Tensor"
  | 2 => .object "ArenaNetwork$Tensor"
  | 3 => .object "ArenaNetwork$Tensor"
  | _ => .int
theorem nmO : ∀ a, a < 5 → ∀ b, b < 5 → a ≠ b → (TO a).2.1 ≠ (TO b).2.1 := by decide +kernel
theorem tkO : ∀ k, k < 5 → parseFieldDescriptor (TO k).2.2.1 = some (tyO k) := by decide +kernel
abbrev dfO : List Value := [.int 0, .null, .null, .null, .int 0]
theorem doO : ∀ j, j < 5 → defaultValue (tyO j) = vp_V dfO j := by
  intro j hj
  rcases (show j = 0 ∨ j = 1 ∨ j = 2 ∨ j = 3 ∨ j = 4 by omega) with rfl | rfl | rfl | rfl | rfl <;> rfl
def TS : u_T := fun k => match k with
  | 0 => ("ArenaNetwork$Scale", "multiplier", "I", false)
  | _ => ("ArenaNetwork$Scale", "shift", "I", false)
def tyS : Nat → FieldType := fun k => match k with
  | 0 => .int
  | _ => .int
theorem nmS : ∀ a, a < 2 → ∀ b, b < 2 → a ≠ b → (TS a).2.1 ≠ (TS b).2.1 := by decide +kernel
theorem tkS : ∀ k, k < 2 → parseFieldDescriptor (TS k).2.2.1 = some (tyS k) := by decide +kernel
abbrev dfS : List Value := [.int 0, .int 0]
theorem doS : ∀ j, j < 2 → defaultValue (tyS j) = vp_V dfS j := by
  intro j hj
  rcases (show j = 0 ∨ j = 1 by omega) with rfl | rfl <;> rfl
def TT : u_T := fun k => match k with
  | 0 => ("ArenaNetwork$Tensor", "number", "I", true)
  | 1 => ("ArenaNetwork$Tensor", "kind", "I", true)
  | 2 => ("ArenaNetwork$Tensor", "length", "I", true)
  | 3 => ("ArenaNetwork$Tensor", "zero", "I", true)
  | 4 => ("ArenaNetwork$Tensor", "given", "[I", true)
  | 5 => ("ArenaNetwork$Tensor", "cells", "[I", true)
  | 6 => ("ArenaNetwork$Tensor", "kept", "Z", false)
  | 7 => ("ArenaNetwork$Tensor", "hasLife", "Z", false)
  | 8 => ("ArenaNetwork$Tensor", "begin", "I", false)
  | 9 => ("ArenaNetwork$Tensor", "end", "I", false)
  | _ => ("ArenaNetwork$Tensor", "place", "I", false)
def tyT : Nat → FieldType := fun k => match k with
  | 0 => .int
  | 1 => .int
  | 2 => .int
  | 3 => .int
  | 4 => .array (.int)
  | 5 => .array (.int)
  | 6 => .boolean
  | 7 => .boolean
  | 8 => .int
  | 9 => .int
  | _ => .int
theorem nmT : ∀ a, a < 11 → ∀ b, b < 11 → a ≠ b → (TT a).2.1 ≠ (TT b).2.1 := by decide +kernel
theorem tkT : ∀ k, k < 11 → parseFieldDescriptor (TT k).2.2.1 = some (tyT k) := by decide +kernel
abbrev dfT : List Value := [.int 0, .int 0, .int 0, .int 0, .null, .null, .int 0, .int 0, .int 0, .int 0, .int 0]
theorem doT : ∀ j, j < 11 → defaultValue (tyT j) = vp_V dfT j := by
  intro j hj
  rcases (show j = 0 ∨ j = 1 ∨ j = 2 ∨ j = 3 ∨ j = 4 ∨ j = 5 ∨ j = 6 ∨ j = 7 ∨ j = 8 ∨ j = 9 ∨ j = 10 by omega) with rfl | rfl | rfl | rfl | rfl | rfl | rfl | rfl | rfl | rfl | rfl <;> rfl
def TM : u_T := fun k => match k with
  | 0 => ("ArenaNetworkModel", "kind", "[I", true)
  | 1 => ("ArenaNetworkModel", "length", "[I", true)
  | 2 => ("ArenaNetworkModel", "zero", "[I", true)
  | 3 => ("ArenaNetworkModel", "kept", "[Z", true)
  | 4 => ("ArenaNetworkModel", "given", "[I", true)
  | 5 => ("ArenaNetworkModel", "now", "[I", true)
  | 6 => ("ArenaNetworkModel", "tensors", "I", false)
  | 7 => ("ArenaNetworkModel", "multiplier", "[I", true)
  | 8 => ("ArenaNetworkModel", "shift", "[I", true)
  | 9 => ("ArenaNetworkModel", "what", "[I", true)
  | 10 => ("ArenaNetworkModel", "sa", "[I", true)
  | 11 => ("ArenaNetworkModel", "sb", "[I", true)
  | 12 => ("ArenaNetworkModel", "result", "[I", true)
  | 13 => ("ArenaNetworkModel", "setting", "[I", true)
  | 14 => ("ArenaNetworkModel", "operators", "I", false)
  | 15 => ("ArenaNetworkModel", "prepared", "Z", false)
  | 16 => ("ArenaNetworkModel", "offsets", "[I", true)
  | 17 => ("ArenaNetworkModel", "placedAs", "[I", true)
  | _ => ("ArenaNetworkModel", "done", "I", false)
def tyM : Nat → FieldType := fun k => match k with
  | 0 => .array (.int)
  | 1 => .array (.int)
  | 2 => .array (.int)
  | 3 => .array (.boolean)
  | 4 => .array (.int)
  | 5 => .array (.int)
  | 6 => .int
  | 7 => .array (.int)
  | 8 => .array (.int)
  | 9 => .array (.int)
  | 10 => .array (.int)
  | 11 => .array (.int)
  | 12 => .array (.int)
  | 13 => .array (.int)
  | 14 => .int
  | 15 => .boolean
  | 16 => .array (.int)
  | 17 => .array (.int)
  | _ => .int
theorem nmM : ∀ a, a < 19 → ∀ b, b < 19 → a ≠ b → (TM a).2.1 ≠ (TM b).2.1 := by decide +kernel
theorem tkM : ∀ k, k < 19 → parseFieldDescriptor (TM k).2.2.1 = some (tyM k) := by decide +kernel
abbrev dfM : List Value := [.null, .null, .null, .null, .null, .null, .int 0, .null, .null, .null, .null, .null, .null, .null, .int 0, .int 0, .null, .null, .int 0]
theorem doM : ∀ j, j < 19 → defaultValue (tyM j) = vp_V dfM j := by
  intro j hj
  rcases (show j = 0 ∨ j = 1 ∨ j = 2 ∨ j = 3 ∨ j = 4 ∨ j = 5 ∨ j = 6 ∨ j = 7 ∨ j = 8 ∨ j = 9 ∨ j = 10 ∨ j = 11 ∨ j = 12 ∨ j = 13 ∨ j = 14 ∨ j = 15 ∨ j = 16 ∨ j = 17 ∨ j = 18 by omega) with rfl | rfl | rfl | rfl | rfl | rfl | rfl | rfl | rfl | rfl | rfl | rfl | rfl | rfl | rfl | rfl | rfl | rfl | rfl <;> rfl
def TL : u_T := fun k => match k with
  | 0 => ("java/util/ArrayList", "elementData", "[Ljava/lang/Object;", false)
  | 1 => ("java/util/ArrayList", "size", "I", false)
  | _ => ("java/util/AbstractList", "modCount", "I", false)
def tyL : Nat → FieldType := fun k => match k with
  | 0 => .array (.object "java/lang/Object")
  | 1 => .int
  | _ => .int
theorem nmL : ∀ a, a < 3 → ∀ b, b < 3 → a ≠ b → (TL a).2.1 ≠ (TL b).2.1 := by decide +kernel
theorem tkL : ∀ k, k < 3 → parseFieldDescriptor (TL k).2.2.1 = some (tyL k) := by decide +kernel
abbrev dfL : List Value := [.null, .int 0, .int 0]
theorem doL : ∀ j, j < 3 → defaultValue (tyL j) = vp_V dfL j := by
  intro j hj
  rcases (show j = 0 ∨ j = 1 ∨ j = 2 by omega) with rfl | rfl | rfl <;> rfl
abbrev vwCl : List vw_C := [("ArenaNetwork", TN, 6), ("ArenaNetwork$Arena", TA, 2), ("ArenaNetwork$Operator", TO, 5), ("ArenaNetwork$Scale", TS, 2), ("ArenaNetwork$Tensor", TT, 11), ("ArenaNetworkModel", TM, 19), ("java/util/ArrayList", TL, 3)]
/-! kinds of arrays: 0 int, 1 boolean, 2 Object, 3 Scale; from 4 on only read: 4 the empty Object[], 5 the script -/
abbrev aRO : Nat := 4
abbrev aN : Nat := 6
abbrev aO : Nat := 2
def aTy : Nat → FieldType := fun t => match t with
  | 0 => .int
  | 1 => .boolean
  | 2 => .object "java/lang/Object"
  | 3 => .object "ArenaNetwork$Scale"
  | 4 => .object "java/lang/Object"
  | _ => .int
def aRf (t : Nat) : Bool := t == 2 || (t == 3 || t == 4)
theorem aRf_obj (t : Nat) (h : aRf t = true) : ∃ E, aTy t = .object E := by
  unfold aRf at h
  rcases (show t = 2 ∨ t = 3 ∨ t = 4 by simpa using h) with rfl | rfl | rfl
  · exact ⟨_, rfl⟩
  · exact ⟨_, rfl⟩
  · exact ⟨_, rfl⟩
theorem aRf_ok (t : Nat) (h : aRf t = true) : (aTy t).isReference = true := by
  obtain ⟨E, hE⟩ := aRf_obj t h
  rw [hE]
  rfl
def aOk (t ci : Nat) : Bool := (t == 2 && (ci == 2 || ci == 4)) || (t == 3 && ci == 3)
abbrev zC : String := "java/util/ArrayList"
abbrev zN : String := "DEFAULTCAPACITY_EMPTY_ELEMENTDATA"
abbrev zD : String := "[Ljava/lang/Object;"
abbrev mC : String := "[Ljava/lang/Object;"

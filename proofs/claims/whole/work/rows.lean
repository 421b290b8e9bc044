section
-- ===== PART A: goes FIRST, ahead of the names: the tables' words, and 'selects' of the private methods out of them =====
/-- a private method of a class that the tables say can be made, by its rows of tables_1 -/
def lw_okq (q : MethodName × Nat) : Prop := (q.1.cls ≠ "java/lang/invoke/MethodHandle" ∧ q.1.cls ≠ "java/lang/invoke/VarHandle") ∧ Cond.instantiable q.1.cls q.2 ∈ tables_1 ∧ Cond.privateMethod q.1 ∈ tables_1 ∧ Cond.instanceMethod q.1 ∈ tables_1
theorem lw_p0 : lw_okq (⟨"java/util/ArrayList", "add", "(Ljava/lang/Object;[Ljava/lang/Object;I)V"⟩, 3) := ⟨⟨by decide +kernel, by decide +kernel⟩, List.mem_of_getElem? (i := 25) (by decide +kernel), List.mem_of_getElem? (i := 182) (by decide +kernel), List.mem_of_getElem? (i := 183) (by decide +kernel)⟩
theorem lw_p1 : lw_okq (⟨"java/util/ArrayList", "grow", "()[Ljava/lang/Object;"⟩, 3) := ⟨⟨by decide +kernel, by decide +kernel⟩, List.mem_of_getElem? (i := 25) (by decide +kernel), List.mem_of_getElem? (i := 186) (by decide +kernel), List.mem_of_getElem? (i := 187) (by decide +kernel)⟩
theorem lw_p2 : lw_okq (⟨"java/util/ArrayList", "grow", "(I)[Ljava/lang/Object;"⟩, 3) := ⟨⟨by decide +kernel, by decide +kernel⟩, List.mem_of_getElem? (i := 25) (by decide +kernel), List.mem_of_getElem? (i := 190) (by decide +kernel), List.mem_of_getElem? (i := 191) (by decide +kernel)⟩
theorem lw_p3 : lw_okq (⟨"ArenaNetwork", "tensorAt", "(I)LArenaNetwork$Tensor;"⟩, 6) := ⟨⟨by decide +kernel, by decide +kernel⟩, List.mem_of_getElem? (i := 17) (by decide +kernel), List.mem_of_getElem? (i := 236) (by decide +kernel), List.mem_of_getElem? (i := 237) (by decide +kernel)⟩
theorem lw_p4 : lw_okq (⟨"ArenaNetwork", "firstFault", "()I"⟩, 6) := ⟨⟨by decide +kernel, by decide +kernel⟩, List.mem_of_getElem? (i := 17) (by decide +kernel), List.mem_of_getElem? (i := 303) (by decide +kernel), List.mem_of_getElem? (i := 304) (by decide +kernel)⟩
theorem lw_p5 : lw_okq (⟨"ArenaNetwork", "faultOf", "(I)I"⟩, 6) := ⟨⟨by decide +kernel, by decide +kernel⟩, List.mem_of_getElem? (i := 17) (by decide +kernel), List.mem_of_getElem? (i := 307) (by decide +kernel), List.mem_of_getElem? (i := 308) (by decide +kernel)⟩
theorem lw_p6 : lw_okq (⟨"ArenaNetwork", "isUnmadeBefore", "(ILArenaNetwork$Tensor;)Z"⟩, 6) := ⟨⟨by decide +kernel, by decide +kernel⟩, List.mem_of_getElem? (i := 17) (by decide +kernel), List.mem_of_getElem? (i := 311) (by decide +kernel), List.mem_of_getElem? (i := 312) (by decide +kernel)⟩
theorem lw_p7 : lw_okq (⟨"ArenaNetwork", "giveLives", "()V"⟩, 6) := ⟨⟨by decide +kernel, by decide +kernel⟩, List.mem_of_getElem? (i := 17) (by decide +kernel), List.mem_of_getElem? (i := 320) (by decide +kernel), List.mem_of_getElem? (i := 321) (by decide +kernel)⟩
theorem lw_p8 : lw_okq (⟨"ArenaNetwork$Arena", "put", "(LArenaNetwork$Tensor;)V"⟩, 2) := ⟨⟨by decide +kernel, by decide +kernel⟩, List.mem_of_getElem? (i := 53) (by decide +kernel), List.mem_of_getElem? (i := 344) (by decide +kernel), List.mem_of_getElem? (i := 345) (by decide +kernel)⟩
theorem lw_p9 : lw_okq (⟨"ArenaNetwork$Arena", "leastPlace", "(LArenaNetwork$Tensor;)I"⟩, 2) := ⟨⟨by decide +kernel, by decide +kernel⟩, List.mem_of_getElem? (i := 53) (by decide +kernel), List.mem_of_getElem? (i := 348) (by decide +kernel), List.mem_of_getElem? (i := 349) (by decide +kernel)⟩
theorem lw_p10 : lw_okq (⟨"ArenaNetwork$Arena", "isFree", "(LArenaNetwork$Tensor;I)Z"⟩, 2) := ⟨⟨by decide +kernel, by decide +kernel⟩, List.mem_of_getElem? (i := 53) (by decide +kernel), List.mem_of_getElem? (i := 352) (by decide +kernel), List.mem_of_getElem? (i := 353) (by decide +kernel)⟩
theorem lw_p11 : lw_okq (⟨"ArenaNetwork", "doNext", "()V"⟩, 6) := ⟨⟨by decide +kernel, by decide +kernel⟩, List.mem_of_getElem? (i := 17) (by decide +kernel), List.mem_of_getElem? (i := 379) (by decide +kernel), List.mem_of_getElem? (i := 380) (by decide +kernel)⟩
theorem lw_p12 : lw_okq (⟨"ArenaNetwork$Operator", "resultCell", "(ILArenaNetwork$Scale;)I"⟩, 5) := ⟨⟨by decide +kernel, by decide +kernel⟩, List.mem_of_getElem? (i := 269) (by decide +kernel), List.mem_of_getElem? (i := 387) (by decide +kernel), List.mem_of_getElem? (i := 388) (by decide +kernel)⟩
theorem lw_p13 : lw_okq (⟨"ArenaNetwork$Operator", "denseSum", "(I)I"⟩, 5) := ⟨⟨by decide +kernel, by decide +kernel⟩, List.mem_of_getElem? (i := 269) (by decide +kernel), List.mem_of_getElem? (i := 391) (by decide +kernel), List.mem_of_getElem? (i := 392) (by decide +kernel)⟩
theorem lw_p14 : lw_okq (⟨"ArenaNetwork$Operator", "clampedResult", "(I)I"⟩, 5) := ⟨⟨by decide +kernel, by decide +kernel⟩, List.mem_of_getElem? (i := 269) (by decide +kernel), List.mem_of_getElem? (i := 411) (by decide +kernel), List.mem_of_getElem? (i := 412) (by decide +kernel)⟩
theorem lw_p15 : lw_okq (⟨"ArenaNetwork$Operator", "greatestOfGroup", "(I)I"⟩, 5) := ⟨⟨by decide +kernel, by decide +kernel⟩, List.mem_of_getElem? (i := 269) (by decide +kernel), List.mem_of_getElem? (i := 417) (by decide +kernel), List.mem_of_getElem? (i := 418) (by decide +kernel)⟩
def lw_privs_1 : List (MethodName × Nat) := [(⟨"java/util/ArrayList", "add", "(Ljava/lang/Object;[Ljava/lang/Object;I)V"⟩, 3), (⟨"java/util/ArrayList", "grow", "()[Ljava/lang/Object;"⟩, 3), (⟨"java/util/ArrayList", "grow", "(I)[Ljava/lang/Object;"⟩, 3), (⟨"ArenaNetwork", "tensorAt", "(I)LArenaNetwork$Tensor;"⟩, 6), (⟨"ArenaNetwork", "firstFault", "()I"⟩, 6), (⟨"ArenaNetwork", "faultOf", "(I)I"⟩, 6), (⟨"ArenaNetwork", "isUnmadeBefore", "(ILArenaNetwork$Tensor;)Z"⟩, 6), (⟨"ArenaNetwork", "giveLives", "()V"⟩, 6), (⟨"ArenaNetwork$Arena", "put", "(LArenaNetwork$Tensor;)V"⟩, 2), (⟨"ArenaNetwork$Arena", "leastPlace", "(LArenaNetwork$Tensor;)I"⟩, 2), (⟨"ArenaNetwork$Arena", "isFree", "(LArenaNetwork$Tensor;I)Z"⟩, 2), (⟨"ArenaNetwork", "doNext", "()V"⟩, 6), (⟨"ArenaNetwork$Operator", "resultCell", "(ILArenaNetwork$Scale;)I"⟩, 5), (⟨"ArenaNetwork$Operator", "denseSum", "(I)I"⟩, 5), (⟨"ArenaNetwork$Operator", "clampedResult", "(I)I"⟩, 5), (⟨"ArenaNetwork$Operator", "greatestOfGroup", "(I)I"⟩, 5)]
theorem lw_r1 : ∀ q ∈ lw_privs_1, lw_okq q := List.forall_mem_cons.mpr ⟨lw_p0, List.forall_mem_cons.mpr ⟨lw_p1, List.forall_mem_cons.mpr ⟨lw_p2, List.forall_mem_cons.mpr ⟨lw_p3, List.forall_mem_cons.mpr ⟨lw_p4, List.forall_mem_cons.mpr ⟨lw_p5, List.forall_mem_cons.mpr ⟨lw_p6, List.forall_mem_cons.mpr ⟨lw_p7, List.forall_mem_cons.mpr ⟨lw_p8, List.forall_mem_cons.mpr ⟨lw_p9, List.forall_mem_cons.mpr ⟨lw_p10, List.forall_mem_cons.mpr ⟨lw_p11, List.forall_mem_cons.mpr ⟨lw_p12, List.forall_mem_cons.mpr ⟨lw_p13, List.forall_mem_cons.mpr ⟨lw_p14, List.forall_mem_cons.mpr ⟨lw_p15, fun _ h => absurd h List.not_mem_nil⟩⟩⟩⟩⟩⟩⟩⟩⟩⟩⟩⟩⟩⟩⟩⟩
theorem lw_p16 : lw_okq (⟨"ArenaNetwork$Operator", "sumOfGroup", "(I)I"⟩, 5) := ⟨⟨by decide +kernel, by decide +kernel⟩, List.mem_of_getElem? (i := 269) (by decide +kernel), List.mem_of_getElem? (i := 421) (by decide +kernel), List.mem_of_getElem? (i := 422) (by decide +kernel)⟩
theorem lw_p17 : lw_okq (⟨"ArenaNetwork", "livingTensorAt", "(I)LArenaNetwork$Tensor;"⟩, 6) := ⟨⟨by decide +kernel, by decide +kernel⟩, List.mem_of_getElem? (i := 17) (by decide +kernel), List.mem_of_getElem? (i := 442) (by decide +kernel), List.mem_of_getElem? (i := 443) (by decide +kernel)⟩
theorem lw_p18 : lw_okq (⟨"ArenaNetworkModel", "noByte", "(I)Z"⟩, 19) := ⟨⟨by decide +kernel, by decide +kernel⟩, List.mem_of_getElem? (i := 469) (by decide +kernel), List.mem_of_getElem? (i := 539) (by decide +kernel), List.mem_of_getElem? (i := 540) (by decide +kernel)⟩
theorem lw_p19 : lw_okq (⟨"ArenaNetworkModel", "noTensor", "(I)Z"⟩, 19) := ⟨⟨by decide +kernel, by decide +kernel⟩, List.mem_of_getElem? (i := 469) (by decide +kernel), List.mem_of_getElem? (i := 547) (by decide +kernel), List.mem_of_getElem? (i := 548) (by decide +kernel)⟩
theorem lw_p20 : lw_okq (⟨"ArenaNetworkModel", "lives", "(I)Z"⟩, 19) := ⟨⟨by decide +kernel, by decide +kernel⟩, List.mem_of_getElem? (i := 469) (by decide +kernel), List.mem_of_getElem? (i := 567) (by decide +kernel), List.mem_of_getElem? (i := 568) (by decide +kernel)⟩
theorem lw_p21 : lw_okq (⟨"ArenaNetworkModel", "maker", "(II)I"⟩, 19) := ⟨⟨by decide +kernel, by decide +kernel⟩, List.mem_of_getElem? (i := 469) (by decide +kernel), List.mem_of_getElem? (i := 571) (by decide +kernel), List.mem_of_getElem? (i := 572) (by decide +kernel)⟩
theorem lw_p22 : lw_okq (⟨"ArenaNetworkModel", "fault", "(I)I"⟩, 19) := ⟨⟨by decide +kernel, by decide +kernel⟩, List.mem_of_getElem? (i := 469) (by decide +kernel), List.mem_of_getElem? (i := 579) (by decide +kernel), List.mem_of_getElem? (i := 580) (by decide +kernel)⟩
theorem lw_p23 : lw_okq (⟨"ArenaNetworkModel", "unmade", "(II)Z"⟩, 19) := ⟨⟨by decide +kernel, by decide +kernel⟩, List.mem_of_getElem? (i := 469) (by decide +kernel), List.mem_of_getElem? (i := 583) (by decide +kernel), List.mem_of_getElem? (i := 584) (by decide +kernel)⟩
theorem lw_p24 : lw_okq (⟨"ArenaNetworkModel", "fits", "(I)Z"⟩, 19) := ⟨⟨by decide +kernel, by decide +kernel⟩, List.mem_of_getElem? (i := 469) (by decide +kernel), List.mem_of_getElem? (i := 587) (by decide +kernel), List.mem_of_getElem? (i := 588) (by decide +kernel)⟩
theorem lw_p25 : lw_okq (⟨"ArenaNetworkModel", "apart", "(III)Z"⟩, 19) := ⟨⟨by decide +kernel, by decide +kernel⟩, List.mem_of_getElem? (i := 469) (by decide +kernel), List.mem_of_getElem? (i := 592) (by decide +kernel), List.mem_of_getElem? (i := 593) (by decide +kernel)⟩
theorem lw_p26 : lw_okq (⟨"ArenaNetworkModel", "begin", "(I)I"⟩, 19) := ⟨⟨by decide +kernel, by decide +kernel⟩, List.mem_of_getElem? (i := 469) (by decide +kernel), List.mem_of_getElem? (i := 596) (by decide +kernel), List.mem_of_getElem? (i := 597) (by decide +kernel)⟩
theorem lw_p27 : lw_okq (⟨"ArenaNetworkModel", "end", "(I)I"⟩, 19) := ⟨⟨by decide +kernel, by decide +kernel⟩, List.mem_of_getElem? (i := 469) (by decide +kernel), List.mem_of_getElem? (i := 600) (by decide +kernel), List.mem_of_getElem? (i := 601) (by decide +kernel)⟩
theorem lw_p28 : lw_okq (⟨"ArenaNetworkModel", "arena", "()I"⟩, 19) := ⟨⟨by decide +kernel, by decide +kernel⟩, List.mem_of_getElem? (i := 469) (by decide +kernel), List.mem_of_getElem? (i := 604) (by decide +kernel), List.mem_of_getElem? (i := 605) (by decide +kernel)⟩
theorem lw_p29 : lw_okq (⟨"ArenaNetworkModel", "made", "(II)I"⟩, 19) := ⟨⟨by decide +kernel, by decide +kernel⟩, List.mem_of_getElem? (i := 469) (by decide +kernel), List.mem_of_getElem? (i := 620) (by decide +kernel), List.mem_of_getElem? (i := 621) (by decide +kernel)⟩
theorem lw_p30 : lw_okq (⟨"ArenaNetworkModel", "difference", "(II)I"⟩, 19) := ⟨⟨by decide +kernel, by decide +kernel⟩, List.mem_of_getElem? (i := 469) (by decide +kernel), List.mem_of_getElem? (i := 624) (by decide +kernel), List.mem_of_getElem? (i := 625) (by decide +kernel)⟩
theorem lw_p31 : lw_okq (⟨"ArenaNetworkModel", "scaling", "(II)I"⟩, 19) := ⟨⟨by decide +kernel, by decide +kernel⟩, List.mem_of_getElem? (i := 469) (by decide +kernel), List.mem_of_getElem? (i := 628) (by decide +kernel), List.mem_of_getElem? (i := 629) (by decide +kernel)⟩
def lw_privs_2 : List (MethodName × Nat) := [(⟨"ArenaNetwork$Operator", "sumOfGroup", "(I)I"⟩, 5), (⟨"ArenaNetwork", "livingTensorAt", "(I)LArenaNetwork$Tensor;"⟩, 6), (⟨"ArenaNetworkModel", "noByte", "(I)Z"⟩, 19), (⟨"ArenaNetworkModel", "noTensor", "(I)Z"⟩, 19), (⟨"ArenaNetworkModel", "lives", "(I)Z"⟩, 19), (⟨"ArenaNetworkModel", "maker", "(II)I"⟩, 19), (⟨"ArenaNetworkModel", "fault", "(I)I"⟩, 19), (⟨"ArenaNetworkModel", "unmade", "(II)Z"⟩, 19), (⟨"ArenaNetworkModel", "fits", "(I)Z"⟩, 19), (⟨"ArenaNetworkModel", "apart", "(III)Z"⟩, 19), (⟨"ArenaNetworkModel", "begin", "(I)I"⟩, 19), (⟨"ArenaNetworkModel", "end", "(I)I"⟩, 19), (⟨"ArenaNetworkModel", "arena", "()I"⟩, 19), (⟨"ArenaNetworkModel", "made", "(II)I"⟩, 19), (⟨"ArenaNetworkModel", "difference", "(II)I"⟩, 19), (⟨"ArenaNetworkModel", "scaling", "(II)I"⟩, 19)]
theorem lw_r2 : ∀ q ∈ lw_privs_2, lw_okq q := List.forall_mem_cons.mpr ⟨lw_p16, List.forall_mem_cons.mpr ⟨lw_p17, List.forall_mem_cons.mpr ⟨lw_p18, List.forall_mem_cons.mpr ⟨lw_p19, List.forall_mem_cons.mpr ⟨lw_p20, List.forall_mem_cons.mpr ⟨lw_p21, List.forall_mem_cons.mpr ⟨lw_p22, List.forall_mem_cons.mpr ⟨lw_p23, List.forall_mem_cons.mpr ⟨lw_p24, List.forall_mem_cons.mpr ⟨lw_p25, List.forall_mem_cons.mpr ⟨lw_p26, List.forall_mem_cons.mpr ⟨lw_p27, List.forall_mem_cons.mpr ⟨lw_p28, List.forall_mem_cons.mpr ⟨lw_p29, List.forall_mem_cons.mpr ⟨lw_p30, List.forall_mem_cons.mpr ⟨lw_p31, fun _ h => absurd h List.not_mem_nil⟩⟩⟩⟩⟩⟩⟩⟩⟩⟩⟩⟩⟩⟩⟩⟩
theorem lw_p32 : lw_okq (⟨"ArenaNetworkModel", "rounded", "(JJ)J"⟩, 19) := ⟨⟨by decide +kernel, by decide +kernel⟩, List.mem_of_getElem? (i := 469) (by decide +kernel), List.mem_of_getElem? (i := 633) (by decide +kernel), List.mem_of_getElem? (i := 634) (by decide +kernel)⟩
theorem lw_p33 : lw_okq (⟨"ArenaNetworkModel", "clamped", "(I)I"⟩, 19) := ⟨⟨by decide +kernel, by decide +kernel⟩, List.mem_of_getElem? (i := 469) (by decide +kernel), List.mem_of_getElem? (i := 638) (by decide +kernel), List.mem_of_getElem? (i := 639) (by decide +kernel)⟩
theorem lw_p34 : lw_okq (⟨"ArenaNetworkModel", "window", "(IIIZ)I"⟩, 19) := ⟨⟨by decide +kernel, by decide +kernel⟩, List.mem_of_getElem? (i := 469) (by decide +kernel), List.mem_of_getElem? (i := 642) (by decide +kernel), List.mem_of_getElem? (i := 643) (by decide +kernel)⟩
def lw_privs_3 : List (MethodName × Nat) := [(⟨"ArenaNetworkModel", "rounded", "(JJ)J"⟩, 19), (⟨"ArenaNetworkModel", "clamped", "(I)I"⟩, 19), (⟨"ArenaNetworkModel", "window", "(IIIZ)I"⟩, 19)]
theorem lw_r3 : ∀ q ∈ lw_privs_3, lw_okq q := List.forall_mem_cons.mpr ⟨lw_p32, List.forall_mem_cons.mpr ⟨lw_p33, List.forall_mem_cons.mpr ⟨lw_p34, fun _ h => absurd h List.not_mem_nil⟩⟩⟩
def lw_privs : List (MethodName × Nat) := lw_privs_1 ++ (lw_privs_2 ++ (lw_privs_3))
def lw_tbl : List Cond := k2_sels lw_privs ++ tables_1
theorem lw_privs_ok : ∀ q ∈ lw_privs, lw_okq q := by
  show ∀ q ∈ lw_privs_1 ++ (lw_privs_2 ++ (lw_privs_3)), lw_okq q
  exact List.forall_mem_append.mpr ⟨lw_r1, List.forall_mem_append.mpr ⟨lw_r2, lw_r3⟩⟩
def TN : u_T := fun k => match k with
  | 0 => ("ArenaNetwork", "tensors", "Ljava/util/ArrayList;", true)
  | 1 => ("ArenaNetwork", "operators", "Ljava/util/ArrayList;", true)
  | 2 => ("ArenaNetwork", "scales", "[LArenaNetwork$Scale;", true)
  | 3 => ("ArenaNetwork", "arena", "LArenaNetwork$Arena;", true)
  | 4 => ("ArenaNetwork", "prepared", "Z", false)
  | _ => ("ArenaNetwork", "done", "I", false)
def tyN : Nat → FieldType := fun k => match k with
  | 0 => .object "java/util/ArrayList"
  | 1 => .object "java/util/ArrayList"
  | 2 => .array (.object "ArenaNetwork$Scale")
  | 3 => .object "ArenaNetwork$Arena"
  | 4 => .boolean
  | _ => .int
theorem nmN : ∀ a, a < 6 → ∀ b, b < 6 → a ≠ b → (TN a).2.1 ≠ (TN b).2.1 := by decide +kernel
theorem tkN : ∀ k, k < 6 → parseFieldDescriptor (TN k).2.2.1 = some (tyN k) := by decide +kernel
abbrev dfN : List Value := [.null, .null, .null, .null, .int 0, .int 0]
theorem doN : ∀ j, j < 6 → defaultValue (tyN j) = vp_V dfN j := by
  intro j hj
  rcases (show j = 0 ∨ j = 1 ∨ j = 2 ∨ j = 3 ∨ j = 4 ∨ j = 5 by omega) with rfl | rfl | rfl | rfl | rfl | rfl <;> rfl
def TA : u_T := fun k => match k with
  | 0 => ("ArenaNetwork$Arena", "order", "Ljava/util/ArrayList;", true)
  | _ => ("ArenaNetwork$Arena", "length", "I", false)
def tyA : Nat → FieldType := fun k => match k with
  | 0 => .object "java/util/ArrayList"
  | _ => .int
theorem nmA : ∀ a, a < 2 → ∀ b, b < 2 → a ≠ b → (TA a).2.1 ≠ (TA b).2.1 := by decide +kernel
theorem tkA : ∀ k, k < 2 → parseFieldDescriptor (TA k).2.2.1 = some (tyA k) := by decide +kernel
abbrev dfA : List Value := [.null, .int 0]
theorem doA : ∀ j, j < 2 → defaultValue (tyA j) = vp_V dfA j := by
  intro j hj
  rcases (show j = 0 ∨ j = 1 by omega) with rfl | rfl <;> rfl
def TO : u_T := fun k => match k with
  | 0 => ("ArenaNetwork$Operator", "kind", "I", true)
  | 1 => ("ArenaNetwork$Operator", "a", "LArenaNetwork$Tensor;", true)
  | 2 => ("ArenaNetwork$Operator", "b", "LArenaNetwork$Tensor;", true)
  | 3 => ("ArenaNetwork$Operator", "\x72", "LArenaNetwork$Tensor;", true)
  | _ => ("ArenaNetwork$Operator", "p", "I", true)
def tyO : Nat → FieldType := fun k => match k with
  | 0 => .int
  | 1 => .object "ArenaNetwork$Tensor"
  | 2 => .object "ArenaNetwork$Tensor"
  | 3 => .object "ArenaNetwork$Tensor"
  | _ => .int
theorem nmO : ∀ a, a < 5 → ∀ b, b < 5 → a ≠ b → (TO a).2.1 ≠ (TO b).2.1 := by decide +kernel
theorem tkO : ∀ k, k < 5 → parseFieldDescriptor (TO k).2.2.1 = some (tyO k) := by decide +kernel
abbrev dfO : List Value := [.int 0, .null, .null, .null, .int 0]
theorem doO : ∀ j, j < 5 → defaultValue (tyO j) = vp_V dfO j := by
  intro j hj
  rcases (show j = 0 ∨ j = 1 ∨ j = 2 ∨ j = 3 ∨ j = 4 by omega) with rfl | rfl | rfl | rfl | rfl <;> rfl
def TS : u_T := fun k => match k with
  | 0 => ("ArenaNetwork$Scale", "multiplier", "I", false)
  | _ => ("ArenaNetwork$Scale", "shift", "I", false)
def tyS : Nat → FieldType := fun k => match k with
  | 0 => .int
  | _ => .int
theorem nmS : ∀ a, a < 2 → ∀ b, b < 2 → a ≠ b → (TS a).2.1 ≠ (TS b).2.1 := by decide +kernel
theorem tkS : ∀ k, k < 2 → parseFieldDescriptor (TS k).2.2.1 = some (tyS k) := by decide +kernel
abbrev dfS : List Value := [.int 0, .int 0]
theorem doS : ∀ j, j < 2 → defaultValue (tyS j) = vp_V dfS j := by
  intro j hj
  rcases (show j = 0 ∨ j = 1 by omega) with rfl | rfl <;> rfl
def TT : u_T := fun k => match k with
  | 0 => ("ArenaNetwork$Tensor", "number", "I", true)
  | 1 => ("ArenaNetwork$Tensor", "kind", "I", true)
  | 2 => ("ArenaNetwork$Tensor", "length", "I", true)
  | 3 => ("ArenaNetwork$Tensor", "zero", "I", true)
  | 4 => ("ArenaNetwork$Tensor", "given", "[I", true)
  | 5 => ("ArenaNetwork$Tensor", "cells", "[I", true)
  | 6 => ("ArenaNetwork$Tensor", "kept", "Z", false)
  | 7 => ("ArenaNetwork$Tensor", "hasLife", "Z", false)
  | 8 => ("ArenaNetwork$Tensor", "begin", "I", false)
  | 9 => ("ArenaNetwork$Tensor", "end", "I", false)
  | _ => ("ArenaNetwork$Tensor", "place", "I", false)
def tyT : Nat → FieldType := fun k => match k with
  | 0 => .int
  | 1 => .int
  | 2 => .int
  | 3 => .int
  | 4 => .array (.int)
  | 5 => .array (.int)
  | 6 => .boolean
  | 7 => .boolean
  | 8 => .int
  | 9 => .int
  | _ => .int
theorem nmT : ∀ a, a < 11 → ∀ b, b < 11 → a ≠ b → (TT a).2.1 ≠ (TT b).2.1 := by decide +kernel
theorem tkT : ∀ k, k < 11 → parseFieldDescriptor (TT k).2.2.1 = some (tyT k) := by decide +kernel
abbrev dfT : List Value := [.int 0, .int 0, .int 0, .int 0, .null, .null, .int 0, .int 0, .int 0, .int 0, .int 0]
theorem doT : ∀ j, j < 11 → defaultValue (tyT j) = vp_V dfT j := by
  intro j hj
  rcases (show j = 0 ∨ j = 1 ∨ j = 2 ∨ j = 3 ∨ j = 4 ∨ j = 5 ∨ j = 6 ∨ j = 7 ∨ j = 8 ∨ j = 9 ∨ j = 10 by omega) with rfl | rfl | rfl | rfl | rfl | rfl | rfl | rfl | rfl | rfl | rfl <;> rfl
def TM : u_T := fun k => match k with
  | 0 => ("ArenaNetworkModel", "kind", "[I", true)
  | 1 => ("ArenaNetworkModel", "length", "[I", true)
  | 2 => ("ArenaNetworkModel", "zero", "[I", true)
  | 3 => ("ArenaNetworkModel", "kept", "[Z", true)
  | 4 => ("ArenaNetworkModel", "given", "[I", true)
  | 5 => ("ArenaNetworkModel", "now", "[I", true)
  | 6 => ("ArenaNetworkModel", "tensors", "I", false)
  | 7 => ("ArenaNetworkModel", "multiplier", "[I", true)
  | 8 => ("ArenaNetworkModel", "shift", "[I", true)
  | 9 => ("ArenaNetworkModel", "what", "[I", true)
  | 10 => ("ArenaNetworkModel", "sa", "[I", true)
  | 11 => ("ArenaNetworkModel", "sb", "[I", true)
  | 12 => ("ArenaNetworkModel", "result", "[I", true)
  | 13 => ("ArenaNetworkModel", "setting", "[I", true)
  | 14 => ("ArenaNetworkModel", "operators", "I", false)
  | 15 => ("ArenaNetworkModel", "prepared", "Z", false)
  | 16 => ("ArenaNetworkModel", "offsets", "[I", true)
  | 17 => ("ArenaNetworkModel", "placedAs", "[I", true)
  | _ => ("ArenaNetworkModel", "done", "I", false)
def tyM : Nat → FieldType := fun k => match k with
  | 0 => .array (.int)
  | 1 => .array (.int)
  | 2 => .array (.int)
  | 3 => .array (.boolean)
  | 4 => .array (.int)
  | 5 => .array (.int)
  | 6 => .int
  | 7 => .array (.int)
  | 8 => .array (.int)
  | 9 => .array (.int)
  | 10 => .array (.int)
  | 11 => .array (.int)
  | 12 => .array (.int)
  | 13 => .array (.int)
  | 14 => .int
  | 15 => .boolean
  | 16 => .array (.int)
  | 17 => .array (.int)
  | _ => .int
theorem nmM : ∀ a, a < 19 → ∀ b, b < 19 → a ≠ b → (TM a).2.1 ≠ (TM b).2.1 := by decide +kernel
theorem tkM : ∀ k, k < 19 → parseFieldDescriptor (TM k).2.2.1 = some (tyM k) := by decide +kernel
abbrev dfM : List Value := [.null, .null, .null, .null, .null, .null, .int 0, .null, .null, .null, .null, .null, .null, .null, .int 0, .int 0, .null, .null, .int 0]
theorem doM : ∀ j, j < 19 → defaultValue (tyM j) = vp_V dfM j := by
  intro j hj
  rcases (show j = 0 ∨ j = 1 ∨ j = 2 ∨ j = 3 ∨ j = 4 ∨ j = 5 ∨ j = 6 ∨ j = 7 ∨ j = 8 ∨ j = 9 ∨ j = 10 ∨ j = 11 ∨ j = 12 ∨ j = 13 ∨ j = 14 ∨ j = 15 ∨ j = 16 ∨ j = 17 ∨ j = 18 by omega) with rfl | rfl | rfl | rfl | rfl | rfl | rfl | rfl | rfl | rfl | rfl | rfl | rfl | rfl | rfl | rfl | rfl | rfl | rfl <;> rfl
def TL : u_T := fun k => match k with
  | 0 => ("java/util/ArrayList", "elementData", "[Ljava/lang/Object;", false)
  | 1 => ("java/util/ArrayList", "size", "I", false)
  | _ => ("java/util/AbstractList", "modCount", "I", false)
def tyL : Nat → FieldType := fun k => match k with
  | 0 => .array (.object "java/lang/Object")
  | 1 => .int
  | _ => .int
theorem nmL : ∀ a, a < 3 → ∀ b, b < 3 → a ≠ b → (TL a).2.1 ≠ (TL b).2.1 := by decide +kernel
theorem tkL : ∀ k, k < 3 → parseFieldDescriptor (TL k).2.2.1 = some (tyL k) := by decide +kernel
abbrev dfL : List Value := [.null, .int 0, .int 0]
theorem doL : ∀ j, j < 3 → defaultValue (tyL j) = vp_V dfL j := by
  intro j hj
  rcases (show j = 0 ∨ j = 1 ∨ j = 2 by omega) with rfl | rfl | rfl <;> rfl
abbrev vwCl : List vw_C := [("ArenaNetwork", TN, 6), ("ArenaNetwork$Arena", TA, 2), ("ArenaNetwork$Operator", TO, 5), ("ArenaNetwork$Scale", TS, 2), ("ArenaNetwork$Tensor", TT, 11), ("ArenaNetworkModel", TM, 19), ("java/util/ArrayList", TL, 3)]
/-! kinds of arrays: 0 int, 1 boolean, 2 Object, 3 Scale; from 4 on only read: 4 the empty Object[], 5 the script -/
abbrev aRO : Nat := 4
abbrev aN : Nat := 6
abbrev aO : Nat := 2
def aTy : Nat → FieldType := fun t => match t with
  | 0 => .int
  | 1 => .boolean
  | 2 => .object "java/lang/Object"
  | 3 => .object "ArenaNetwork$Scale"
  | 4 => .object "java/lang/Object"
  | _ => .int
def aRf (t : Nat) : Bool := t == 2 || (t == 3 || t == 4)
theorem aRf_obj (t : Nat) (h : aRf t = true) : ∃ E, aTy t = .object E := by
  unfold aRf at h
  rcases (show t = 2 ∨ t = 3 ∨ t = 4 by simpa using h) with rfl | rfl | rfl
  · exact ⟨_, rfl⟩
  · exact ⟨_, rfl⟩
  · exact ⟨_, rfl⟩
theorem aRf_ok (t : Nat) (h : aRf t = true) : (aTy t).isReference = true := by
  obtain ⟨E, hE⟩ := aRf_obj t h
  rw [hE]
  rfl
def aOk (t ci : Nat) : Bool := (t == 2 && (ci == 2 || ci == 4)) || (t == 3 && ci == 3)
abbrev zC : String := "java/util/ArrayList"
abbrev zN : String := "DEFAULTCAPACITY_EMPTY_ELEMENTDATA"
abbrev zD : String := "[Ljava/lang/Object;"
abbrev mC : String := "[Ljava/lang/Object;"
end
section
/-! words that are not in the methods' own lists -/
def lw_ex : List Cond := [(Jvm.Cond.arrayOver (Jvm.ClassFile.FieldType.object "java/lang/Object")), (Jvm.Cond.declares ({ cls := "java/lang/Object", name := "getClass", desc := "()Ljava/lang/Class;" } : Jvm.MethodName)), (Jvm.Cond.methodLinkNest "ArenaNetwork$Scale" (19 : Nat) ({ cls := "ArenaNetwork", name := "rounded", desc := "(JJ)J" } : Jvm.MethodName) "ArenaNetwork"), (Jvm.Cond.methodLinkNest "ArenaNetwork$Operator" (34 : Nat) ({ cls := "ArenaNetwork", name := "isWithin", desc := "(III)Z" } : Jvm.MethodName) "ArenaNetwork"), (Jvm.Cond.methodLinkNest "ArenaNetwork$Operator" (71 : Nat) ({ cls := "ArenaNetwork", name := "rounded", desc := "(JJ)J" } : Jvm.MethodName) "ArenaNetwork"), (Jvm.Cond.methodLinkNest "ArenaNetwork" (40 : Nat) ({ cls := "ArenaNetwork$Scale", name := "<init>", desc := "()V" } : Jvm.MethodName) "ArenaNetwork"), (Jvm.Cond.arrayOver (Jvm.ClassFile.FieldType.object "ArenaNetwork$Scale")), (Jvm.Cond.methodLinkNest "ArenaNetwork" (27 : Nat) ({ cls := "ArenaNetwork$Arena", name := "<init>", desc := "()V" } : Jvm.MethodName) "ArenaNetwork"), (Jvm.Cond.castable "ArenaNetwork$Tensor" "java/lang/Object"), (Jvm.Cond.castable "ArenaNetwork$Operator" "java/lang/Object")]
theorem x221 : (Jvm.Cond.arrayOver (Jvm.ClassFile.FieldType.object "java/lang/Object")) ∈ lw_ex := List.mem_of_getElem? (i := 0) rfl
theorem x676 : (Jvm.Cond.declares ({ cls := "java/lang/Object", name := "getClass", desc := "()Ljava/lang/Class;" } : Jvm.MethodName)) ∈ lw_ex := List.mem_of_getElem? (i := 1) rfl
theorem x403 : (Jvm.Cond.methodLinkNest "ArenaNetwork$Scale" (19 : Nat) ({ cls := "ArenaNetwork", name := "rounded", desc := "(JJ)J" } : Jvm.MethodName) "ArenaNetwork") ∈ lw_ex := List.mem_of_getElem? (i := 2) rfl
theorem x318 : (Jvm.Cond.methodLinkNest "ArenaNetwork$Operator" (34 : Nat) ({ cls := "ArenaNetwork", name := "isWithin", desc := "(III)Z" } : Jvm.MethodName) "ArenaNetwork") ∈ lw_ex := List.mem_of_getElem? (i := 3) rfl
theorem x424 : (Jvm.Cond.methodLinkNest "ArenaNetwork$Operator" (71 : Nat) ({ cls := "ArenaNetwork", name := "rounded", desc := "(JJ)J" } : Jvm.MethodName) "ArenaNetwork") ∈ lw_ex := List.mem_of_getElem? (i := 4) rfl
theorem x70 : (Jvm.Cond.methodLinkNest "ArenaNetwork" (40 : Nat) ({ cls := "ArenaNetwork$Scale", name := "<init>", desc := "()V" } : Jvm.MethodName) "ArenaNetwork") ∈ lw_ex := List.mem_of_getElem? (i := 5) rfl
theorem x51 : (Jvm.Cond.arrayOver (Jvm.ClassFile.FieldType.object "ArenaNetwork$Scale")) ∈ lw_ex := List.mem_of_getElem? (i := 6) rfl
theorem x54 : (Jvm.Cond.methodLinkNest "ArenaNetwork" (27 : Nat) ({ cls := "ArenaNetwork$Arena", name := "<init>", desc := "()V" } : Jvm.MethodName) "ArenaNetwork") ∈ lw_ex := List.mem_of_getElem? (i := 7) rfl
theorem x681 : (Jvm.Cond.castable "ArenaNetwork$Tensor" "java/lang/Object") ∈ lw_ex := List.mem_of_getElem? (i := 8) rfl
theorem x682 : (Jvm.Cond.castable "ArenaNetwork$Operator" "java/lang/Object") ∈ lw_ex := List.mem_of_getElem? (i := 9) rfl
theorem lw_ex_cases {P : Cond → Prop} (h221 : P (Jvm.Cond.arrayOver (Jvm.ClassFile.FieldType.object "java/lang/Object"))) (h676 : P (Jvm.Cond.declares ({ cls := "java/lang/Object", name := "getClass", desc := "()Ljava/lang/Class;" } : Jvm.MethodName))) (h403 : P (Jvm.Cond.methodLinkNest "ArenaNetwork$Scale" (19 : Nat) ({ cls := "ArenaNetwork", name := "rounded", desc := "(JJ)J" } : Jvm.MethodName) "ArenaNetwork")) (h318 : P (Jvm.Cond.methodLinkNest "ArenaNetwork$Operator" (34 : Nat) ({ cls := "ArenaNetwork", name := "isWithin", desc := "(III)Z" } : Jvm.MethodName) "ArenaNetwork")) (h424 : P (Jvm.Cond.methodLinkNest "ArenaNetwork$Operator" (71 : Nat) ({ cls := "ArenaNetwork", name := "rounded", desc := "(JJ)J" } : Jvm.MethodName) "ArenaNetwork")) (h70 : P (Jvm.Cond.methodLinkNest "ArenaNetwork" (40 : Nat) ({ cls := "ArenaNetwork$Scale", name := "<init>", desc := "()V" } : Jvm.MethodName) "ArenaNetwork")) (h51 : P (Jvm.Cond.arrayOver (Jvm.ClassFile.FieldType.object "ArenaNetwork$Scale"))) (h54 : P (Jvm.Cond.methodLinkNest "ArenaNetwork" (27 : Nat) ({ cls := "ArenaNetwork$Arena", name := "<init>", desc := "()V" } : Jvm.MethodName) "ArenaNetwork")) (h681 : P (Jvm.Cond.castable "ArenaNetwork$Tensor" "java/lang/Object")) (h682 : P (Jvm.Cond.castable "ArenaNetwork$Operator" "java/lang/Object")) : ∀ x ∈ lw_ex, P x := by
  intro x hx
  unfold lw_ex at hx
  simp only [List.mem_cons, List.not_mem_nil, or_false] at hx
  rcases hx with rfl | rfl | rfl | rfl | rfl | rfl | rfl | rfl | rfl | rfl
  · exact h221
  · exact h676
  · exact h403
  · exact h318
  · exact h424
  · exact h70
  · exact h51
  · exact h54
  · exact h681
  · exact h682
theorem lw_ex_stays : ∀ x ∈ lw_ex, ∀ s U : State, s.WarmedH U.vm → va_Nw x s → va_Nw x U := lw_ex_cases (fun s U hW h => va_AO.moved hW.alike h) (fun s U hW h => va_Dc.moved hW.alike h) (fun s U hW h => va_Nw.warmM hW h) (fun s U hW h => va_Nw.warmM hW h) (fun s U hW h => va_Nw.warmM hW h) (fun s U hW h => va_Nw.warmM hW h) (fun s U hW h => va_AO.moved hW.alike h) (fun s U hW h => va_Nw.warmM hW h) (fun s U hW h => va_Nw.warmC hW h) (fun s U hW h => va_Nw.warmC hW h)
theorem lw_ex_same : ∀ x ∈ lw_ex, ∀ u U : State, u.vm = U.vm → va_Nw x u → va_Nw x U := lw_ex_cases (fun u U e h => va_AO.moved (by rw [e]; exact Vm.Alike.refl _) h) (fun u U e h => va_Nw.same rfl e h) (fun u U e h => va_Nw.same rfl e h) (fun u U e h => va_Nw.same rfl e h) (fun u U e h => va_Nw.same rfl e h) (fun u U e h => va_Nw.same rfl e h) (fun u U e h => va_AO.moved (by rw [e]; exact Vm.Alike.refl _) h) (fun u U e h => va_Nw.same rfl e h) (fun u U e h => va_Nw.same rfl e h) (fun u U e h => va_Nw.same rfl e h)
theorem lw_ex_use : ∀ x ∈ lw_ex, ∀ (A : Array Value) (U : State), va_Nw x U → x.before A U = true := lw_ex_cases (fun A U h => va_AO.use h) (fun A U h => va_Nw.use rfl h) (fun A U h => va_Nw.use rfl h) (fun A U h => va_Nw.use rfl h) (fun A U h => va_Nw.use rfl h) (fun A U h => va_Nw.use rfl h) (fun A U h => va_AO.use h) (fun A U h => va_Nw.use rfl h) (fun A U h => va_Nw.use rfl h) (fun A U h => va_Nw.use rfl h)
theorem lw_ex_of : ∀ x ∈ lw_ex, ∀ (A : Array Value) (U : State), x.before A U = true → va_Nw x U := lw_ex_cases (fun A U h => va_AO.of h) (fun A U h => va_Nw.of rfl h) (fun A U h => va_Nw.of rfl h) (fun A U h => va_Nw.of rfl h) (fun A U h => va_Nw.of rfl h) (fun A U h => va_Nw.of rfl h) (fun A U h => va_AO.of h) (fun A U h => va_Nw.of rfl h) (fun A U h => va_Nw.of rfl h) (fun A U h => va_Nw.of rfl h)
set_option maxRecDepth 100000 in
theorem lw_ex_in : ∀ x ∈ lw_ex, x ∈ lw_tbl := lw_ex_cases (List.mem_of_getElem? (i := 256) rfl) (List.mem_of_getElem? (i := 711) rfl) (List.mem_of_getElem? (i := 438) rfl) (List.mem_of_getElem? (i := 353) rfl) (List.mem_of_getElem? (i := 459) rfl) (List.mem_of_getElem? (i := 105) rfl) (List.mem_of_getElem? (i := 86) rfl) (List.mem_of_getElem? (i := 89) rfl) (List.mem_of_getElem? (i := 716) rfl) (List.mem_of_getElem? (i := 717) rfl)
end
section
/-! THE LAYER V: a method's walk over a pure world. A world w = (cells by address, heap size, the address of ArrayList's empty array, the address of the class object of Object[]). V C w k n pc lv st: the machine at pc, with locals lv, operands st and the world w, comes to C's end. -/
abbrev cE : Type := (Nat × vp_A) ⊕ (Nat × List Value)
abbrev cW : Type := (Nat → Option cE) × Nat × Nat × Nat
abbrev cG : Type := Nat × va_G × (Nat → ClassId)
/-- may it be written? arrays of a kind from aRO on are not -/
def wrE (e : cE) : Bool := match e with
  | .inl a => decide (a.1 < aRO)
  | .inr _ => true
def Aw (w : cW) : Nat → Prop := fun q => (∃ e, w.1 q = some e ∧ wrE e = true) ∨ w.2.1 ≤ q
/-- what an array holds at a place -/
def vpV (x : vp_A) (j : Nat) : Value := match x.2 with
  | .inl f => .int (f j)
  | .inr (.inl f) => .long (f j)
  | .inr (.inr (.inl f)) => .float (f j)
  | .inr (.inr (.inr (.inl f))) => .double (f j)
  | .inr (.inr (.inr (.inr f))) => va_rf (f j)
theorem vp_cell_V (cA : ClassId) (x : vp_A) : vp_cell cA x = arrV cA x.1 (vpV x) := by
  obtain ⟨n, f | f | f | f | f⟩ := x <;> rfl
/-- the cell e lies at a; an array that is only read may have been there before -/
def cAt (G : cG) (U : State) (H : Heap) (a : Nat) (e : cE) : Prop := match e with
  | .inl x => if x.1 < aRO then H[a]? = some (vp_cell (G.2.2 x.1) x.2) else va_T (aTy x.1) a x.2.1 (vpV x.2) (fun _ => False) U H
  | .inr o => va_at G.2.1 vwCl (a, .inr o) H
theorem cAt.kept {G : cG} {U : State} {H H1 : Heap} {a : Nat} {e : cE} (h : cAt G U H a e) (hq : H1[a]? = H[a]?) : cAt G U H1 a e := by
  cases e with
  | inl x =>
    unfold cAt at h ⊢
    dsimp only at h ⊢
    by_cases hx : x.1 < aRO
    · rw [if_pos hx] at h ⊢
      exact hq.trans h
    · rw [if_neg hx] at h ⊢
      obtain ⟨cell, h1, h2⟩ := h
      exact ⟨cell, hq.trans h1, h2⟩
  | inr o => exact va_at.kept (q := (a, .inr o)) h hq
theorem cAt.lt {G : cG} {U : State} {H : Heap} {a : Nat} {e : cE} (h : cAt G U H a e) : a < H.size := by
  cases e with
  | inl x =>
    unfold cAt at h
    dsimp only at h
    by_cases hx : x.1 < aRO
    · rw [if_pos hx] at h
      exact (Array.getElem?_eq_some_iff.mp h).1
    · rw [if_neg hx] at h
      obtain ⟨cell, h1, h2⟩ := h
      exact (Array.getElem?_eq_some_iff.mp h1).1
  | inr o => exact va_at.lt (q := (a, .inr o)) h
theorem cAt.moved {G : cG} {u U : State} {H : Heap} {a : Nat} {e : cE} (hvm : u.vm.Alike U.vm) (h : cAt G u H a e) : cAt G U H a e := by
  cases e with
  | inl x =>
    unfold cAt at h ⊢
    dsimp only at h ⊢
    by_cases hx : x.1 < aRO
    · rw [if_pos hx] at h ⊢
      exact h
    · rw [if_neg hx] at h ⊢
      exact va_T.moved hvm h
  | inr o => exact h
def cHm (G : cG) (U : State) (σ : Nat → Option cE) (H : Heap) : Prop := ∀ (a : Nat) (e : cE), σ a = some e → cAt G U H a e
theorem cHm.moved {G : cG} {u U : State} {σ : Nat → Option cE} {H : Heap} (hvm : u.vm.Alike U.vm) (h : cHm G u σ H) : cHm G U σ H := fun a e he => (h a e he).moved hvm
/-- the words that callees take along not by their own lists: they stay as the machine warms -/
def cX (U : State) : Prop := ∀ x ∈ lw_ex, va_Nw x U
theorem cX.warm {s U : State} (hW : s.WarmedH U.vm) (h : cX s) : cX U := fun x hx => lw_ex_stays x hx s U hW (h x hx)
theorem cX.same {u U : State} (e : u.vm = U.vm) (h : cX u) : cX U := fun x hx => lw_ex_same x hx u U e (h x hx)
def cK (G : cG) (U : State) : Prop := va_K G.2.1 vwCl [] U ∧ (∀ t : Nat, t < aN → ArrOfT U (G.2.2 t) (aTy t) ∧ va_RA U (G.2.2 t) (aTy t)) ∧ cX U
theorem cK.moved {G : cG} {u U : State} (hvm : u.vm.Alike U.vm) (hX : cX U) (h : cK G u) : cK G U := ⟨va_K.moved hvm h.1, fun t ht => ⟨arrOfT_moved hvm (h.2.1 t ht).1, (h.2.1 t ht).2.moved hvm⟩, hX⟩
def cZ (G : cG) (w : cW) (U : State) (H : Heap) : Prop := va_Z zC zN zD (.ref w.2.2.1) (fun q => G.1 ≤ q) U H ∧ va_Mi mC w.2.2.2 U
def okw (G : cG) (w : cW) (U : State) : Prop := cK G U ∧ cZ G w U U.heap ∧ U.heap.size = w.2.1 ∧ cHm G U w.1 U.heap ∧ G.1 ≤ w.2.1 ∧ ∀ (a : Nat) (e : cE), w.1 a = some e → wrE e = true → G.1 ≤ a
def okc (G : cG) (s : State) (w0 w : cW) (H : Heap) (locs : List Loc) : Prop := H.size = w.2.1 ∧ cHm G s w.1 H ∧ (∀ (a : Nat) (e : cE), w.1 a = some e → wrE e = true → G.1 ≤ a ∧ Aw w0 a) ∧ va_S (Aw w0) s.heap H locs ∧ w.2.2 = w0.2.2
abbrev xC := Program × Launch × Env × Room × State × MethodId × Array Value × List Frame × Method × Code × (State → Prop) × Nat × cG × cW
def V (C : xC) (w : cW) (k n pc : Nat) (lv : List (Nat × Value)) (st : List Value) : Prop := match C with
  | (p, l, e, R, s, m, args, below, meth, c, Q, nL, G, w0) => ∀ (H : Heap) (locs : List Loc) (ls : Array Slot), okc G s w0 w H locs → lv_has ls nL lv → W p l e R s m args below meth c H locs k n Q (F0 m pc ls st)
def okC (C : xC) (cc : ByteArray) (nL0 : Nat) (own : String) (Ts : List Cond) : Prop := match C with
  | (p, _, _, _, s, m, args, _, meth, c, _, nL, G, w0) => p.tables.exec = Jvm.exec ∧ c.code = cc ∧ c.maxLocals = nL ∧ nL = nL0 ∧ s.vm.findClass own = some m.cls ∧ (∀ w ∈ Ts, w.before args s = true) ∧ okw G w0 s ∧ meth.locks = false
def xR (C : xC) : Room := C.2.2.2.1
def bnd {α β : Type} (x : α) (f : α → β) : β := f x
def cbd {α β γ : Type} (o : Option (α × β)) (f : α → β → Option γ) : Option γ := match o with
  | some q => f q.1 q.2
  | none => none
theorem ob {α β : Type} {o : Option α} {f : α → Option β} {r : β} (h : o.bind f = some r) : ∃ x, o = some x ∧ f x = some r := by
  cases o with
  | none => cases h
  | some x => exact ⟨x, rfl, h⟩
theorem obc {α β γ : Type} {o : Option (α × β)} {f : α → β → Option γ} {r : γ} (h : cbd o f = some r) : ∃ x y, o = some (x, y) ∧ f x y = some r := by
  cases o with
  | none => cases h
  | some x => exact ⟨x.1, x.2, rfl, h⟩
theorem okc.put {G : cG} {s : State} {w0 w : cW} {H H1 : Heap} {locs : List Loc} {a i : Nat} {e0 e : cE} (h : okc G s w0 w H locs) (ha : w.1 a = some e0) (hw0 : wrE e0 = true) (hat : cAt G s H1 a e) (z : H1.size = H.size) (oq : ∀ q : Nat, q ≠ a → H1[q]? = H[q]?) : okc G s w0 (va_up w.1 a (some e), w.2) H1 (locs ++ [⟨a, i⟩]) := by
  obtain ⟨h1, h2, h3, h4, h5⟩ := h
  refine ⟨z.trans h1, fun b x hb => ?_, fun b x hb hx => ?_, h4.put z oq (h3 a e0 ha hw0).2, h5⟩
  · have hb : va_up w.1 a (some e) b = some x := hb
    by_cases q : b = a
    · subst q
      rw [va_up_self] at hb
      cases hb
      exact hat
    · rw [va_up_ne _ _ q] at hb
      exact (h2 b x hb).kept (oq b q)
  · have hb : va_up w.1 a (some e) b = some x := hb
    by_cases q : b = a
    · subst q
      exact h3 b e0 ha hw0
    · rw [va_up_ne _ _ q] at hb
      exact h3 b x hb hx
theorem okc.puts {G : cG} {s : State} {w0 w : cW} {H H1 : Heap} {locs L : List Loc} {a : Nat} {e0 e : cE} (h : okc G s w0 w H locs) (ha : w.1 a = some e0) (hw0 : wrE e0 = true) (hat : cAt G s H1 a e) (z : H1.size = H.size) (oq : ∀ q : Nat, q ≠ a → H1[q]? = H[q]?) (hL : ∀ q ∈ L, q.base = a) : okc G s w0 (va_up w.1 a (some e), w.2) H1 (locs ++ L) := by
  obtain ⟨h1, h2, h3, h4, h5⟩ := okc.put (i := 0) h ha hw0 hat z oq
  refine ⟨h1, h2, h3, ⟨h4.1, h4.2.1, fun q hq => ?_⟩, h5⟩
  rcases List.mem_append.mp hq with g | g
  · exact h4.2.2 q (List.mem_append.mpr (Or.inl g))
  · have := h4.2.2 (⟨a, 0⟩ : Loc) (List.mem_append.mpr (Or.inr (List.mem_singleton.mpr rfl)))
    rw [hL q g]
    exact this
theorem okc.new {G : cG} {s : State} {w0 w : cW} {H H1 : Heap} {locs : List Loc} {e : cE} (h : okc G s w0 w H locs) (hw : w0.2.1 = s.heap.size) (hB : G.1 ≤ w0.2.1) (hat : cAt G s H1 w.2.1 e) (z : H1.size = H.size + 1) (oq : ∀ q : Nat, q < H.size → H1[q]? = H[q]?) : okc G s w0 (va_up w.1 w.2.1 (some e), w.2.1 + 1, w.2.2) H1 locs := by
  obtain ⟨h1, h2, h3, h4, h5⟩ := h
  have hn : w0.2.1 ≤ w.2.1 := by rw [hw, ← h1]; exact h4.1
  refine ⟨by rw [z, h1], fun b x hb => ?_, fun b x hb hx => ?_, ⟨by rw [z]; exact Nat.le_succ_of_le h4.1, fun q g1 g2 => (oq q (Nat.lt_of_lt_of_le g1 h4.1)).trans (h4.2.1 q g1 g2), h4.2.2⟩, h5⟩
  · have hb : va_up w.1 w.2.1 (some e) b = some x := hb
    by_cases q : b = w.2.1
    · subst q
      rw [va_up_self] at hb
      cases hb
      exact hat
    · rw [va_up_ne _ _ q] at hb
      exact (h2 b x hb).kept (oq b (h2 b x hb).lt)
  · have hb : va_up w.1 w.2.1 (some e) b = some x := hb
    by_cases q : b = w.2.1
    · subst q
      exact ⟨Nat.le_trans hB hn, Or.inr hn⟩
    · rw [va_up_ne _ _ q] at hb
      exact h3 b x hb hx
theorem V.widen {C : xC} {w : cW} {k n k' n' pc : Nat} {lv : List (Nat × Value)} {st : List Value} (h1 : k ≤ k') (h2 : n ≤ n') (h : V C w k' n' pc lv st) : V C w k n pc lv st := by
  obtain ⟨p, l, e, R, s, m, args, below, meth, c, Q, nL, G, w0⟩ := C
  intro H locs ls ho hl
  exact W.widen h1 h2 (h H locs ls ho hl)
/-- fewer locals, in another order: by their places -/
theorem V.sub {C : xC} {w : cW} {k n pc : Nat} {lv lv' : List (Nat × Value)} {st : List Value} (ks : List Nat) (hk : lv_pick lv ks = lv') (h : V C w k n pc lv' st) : V C w k n pc lv st := by
  obtain ⟨p, l, e, R, s, m, args, below, meth, c, Q, nL, G, w0⟩ := C
  intro H locs ls ho hl
  exact h H locs ls ho (lv_sub hl ks hk)

theorem v_iconst {C : xC} {cc : ByteArray} {nL : Nat} {own : String} {Ts : List Cond} {w : cW} {k n pc : Nat} {lv : List (Nat × Value)} {st : List Value} {i : Int} {v : Int32} (hC : okC C cc nL own Ts) (hd : decode cc pc = .ok (.iconst i, 1)) (hv : Int32.ofInt i = v) (kk : V C w k n (pc + 1) lv (.int v :: st)) : V C w k n pc lv (st) := by
  obtain ⟨p, l, e, R, s, m, args, below, meth, c, Q, nL, G, w0⟩ := C
  intro H locs ls ho hl
  exact lv_iconst hC.1 hC.2.1 hd hv (kk H locs ls ho hl)
theorem v_bipush {C : xC} {cc : ByteArray} {nL : Nat} {own : String} {Ts : List Cond} {w : cW} {k n pc : Nat} {lv : List (Nat × Value)} {st : List Value} {i : Int} {v : Int32} (hC : okC C cc nL own Ts) (hd : decode cc pc = .ok (.bipush i, 2)) (hv : (Int8.ofInt i).toInt32 = v) (kk : V C w k n (pc + 2) lv (.int v :: st)) : V C w k n pc lv (st) := by
  obtain ⟨p, l, e, R, s, m, args, below, meth, c, Q, nL, G, w0⟩ := C
  intro H locs ls ho hl
  exact lv_bipush hC.1 hC.2.1 hd hv (kk H locs ls ho hl)
theorem v_sipush {C : xC} {cc : ByteArray} {nL : Nat} {own : String} {Ts : List Cond} {w : cW} {k n pc : Nat} {lv : List (Nat × Value)} {st : List Value} {i : Int} {v : Int32} (hC : okC C cc nL own Ts) (hd : decode cc pc = .ok (.sipush i, 3)) (hv : (Int16.ofInt i).toInt32 = v) (kk : V C w k n (pc + 3) lv (.int v :: st)) : V C w k n pc lv (st) := by
  obtain ⟨p, l, e, R, s, m, args, below, meth, c, Q, nL, G, w0⟩ := C
  intro H locs ls ho hl
  exact lv_sipush hC.1 hC.2.1 hd hv (kk H locs ls ho hl)
theorem v_lconst {C : xC} {cc : ByteArray} {nL : Nat} {own : String} {Ts : List Cond} {w : cW} {k n pc : Nat} {lv : List (Nat × Value)} {st : List Value} {i : Fin 2} {v : Int64} (hC : okC C cc nL own Ts) (hd : decode cc pc = .ok (.lconst i, 1)) (hv : Int64.ofNat (i : Nat) = v) (kk : V C w k n (pc + 1) lv (.long v :: st)) : V C w k n pc lv (st) := by
  obtain ⟨p, l, e, R, s, m, args, below, meth, c, Q, nL, G, w0⟩ := C
  intro H locs ls ho hl
  exact lv_lconst hC.1 hC.2.1 hd hv (kk H locs ls ho hl)
theorem v_null {C : xC} {cc : ByteArray} {nL : Nat} {own : String} {Ts : List Cond} {w : cW} {k n pc : Nat} {lv : List (Nat × Value)} {st : List Value} (hC : okC C cc nL own Ts) (hd : decode cc pc = .ok (.aconst_null, 1)) (kk : V C w k n (pc + 1) lv (va_rf none :: st)) : V C w k n pc lv (st) := by
  obtain ⟨p, l, e, R, s, m, args, below, meth, c, Q, nL, G, w0⟩ := C
  intro H locs ls ho hl
  exact lv_null hC.1 hC.2.1 hd (kk H locs ls ho hl)
theorem v_ldc {C : xC} {cc : ByteArray} {nL : Nat} {own : String} {Ts : List Cond} {w : cW} {k n pc : Nat} {lv : List (Nat × Value)} {st : List Value} {i : Nat} {v : Int32} (hC : okC C cc nL own Ts) (hd : decode cc pc = .ok (.ldc i, 2)) (hc : Cond.constant own i v ∈ Ts) (kk : V C w k n (pc + 2) lv (.int v :: st)) : V C w k n pc lv (st) := by
  obtain ⟨p, l, e, R, s, m, args, below, meth, c, Q, nL, G, w0⟩ := C
  intro H locs ls ho hl
  exact lv_ldc hC.1 hC.2.1 hC.2.2.2.2.1 (hC.2.2.2.2.2.1 _ hc) hd (kk H locs ls ho hl)
theorem v_ldc2 {C : xC} {cc : ByteArray} {nL : Nat} {own : String} {Ts : List Cond} {w : cW} {k n pc : Nat} {lv : List (Nat × Value)} {st : List Value} {i : Nat} {v : Int64} (hC : okC C cc nL own Ts) (hd : decode cc pc = .ok (.ldc2_w i, 3)) (hc : Cond.constantLong own i v ∈ Ts) (kk : V C w k n (pc + 3) lv (.long v :: st)) : V C w k n pc lv (st) := by
  obtain ⟨p, l, e, R, s, m, args, below, meth, c, Q, nL, G, w0⟩ := C
  intro H locs ls ho hl
  exact lv_ldc2 hC.1 hC.2.1 hC.2.2.2.2.1 (hC.2.2.2.2.2.1 _ hc) hd (kk H locs ls ho hl)
theorem v_iload_n {C : xC} {cc : ByteArray} {nL : Nat} {own : String} {Ts : List Cond} {w : cW} {k n pc : Nat} {lv : List (Nat × Value)} {st : List Value} {f : Fin 4} {i : Nat} {x : Int32} (hC : okC C cc nL own Ts) (hd : decode cc pc = .ok (.iload_n f, 1)) (hi : (f : Nat) = i) (q : Nat) (hq : lv[q]? = some (i, .int x)) (kk : V C w k n (pc + 1) lv (.int x :: st)) : V C w k n pc lv (st) := by
  obtain ⟨p, l, e, R, s, m, args, below, meth, c, Q, nL, G, w0⟩ := C
  intro H locs ls ho hl
  exact lv_iload_n hC.1 hC.2.1 hd hi (lv_at hl q hq) (kk H locs ls ho hl)
theorem v_iload {C : xC} {cc : ByteArray} {nL : Nat} {own : String} {Ts : List Cond} {w : cW} {k n pc : Nat} {lv : List (Nat × Value)} {st : List Value} {i : Nat} {x : Int32} (hC : okC C cc nL own Ts) (hd : decode cc pc = .ok (.iload i, 2)) (q : Nat) (hq : lv[q]? = some (i, .int x)) (kk : V C w k n (pc + 2) lv (.int x :: st)) : V C w k n pc lv (st) := by
  obtain ⟨p, l, e, R, s, m, args, below, meth, c, Q, nL, G, w0⟩ := C
  intro H locs ls ho hl
  exact lv_iload hC.1 hC.2.1 hd (lv_at hl q hq) (kk H locs ls ho hl)
theorem v_lload_n {C : xC} {cc : ByteArray} {nL : Nat} {own : String} {Ts : List Cond} {w : cW} {k n pc : Nat} {lv : List (Nat × Value)} {st : List Value} {f : Fin 4} {i : Nat} {x : Int64} (hC : okC C cc nL own Ts) (hd : decode cc pc = .ok (.lload_n f, 1)) (hi : (f : Nat) = i) (q : Nat) (hq : lv[q]? = some (i, .long x)) (kk : V C w k n (pc + 1) lv (.long x :: st)) : V C w k n pc lv (st) := by
  obtain ⟨p, l, e, R, s, m, args, below, meth, c, Q, nL, G, w0⟩ := C
  intro H locs ls ho hl
  exact lv_lload_n hC.1 hC.2.1 hd hi (lv_at hl q hq) (kk H locs ls ho hl)
theorem v_lload {C : xC} {cc : ByteArray} {nL : Nat} {own : String} {Ts : List Cond} {w : cW} {k n pc : Nat} {lv : List (Nat × Value)} {st : List Value} {i : Nat} {x : Int64} (hC : okC C cc nL own Ts) (hd : decode cc pc = .ok (.lload i, 2)) (q : Nat) (hq : lv[q]? = some (i, .long x)) (kk : V C w k n (pc + 2) lv (.long x :: st)) : V C w k n pc lv (st) := by
  obtain ⟨p, l, e, R, s, m, args, below, meth, c, Q, nL, G, w0⟩ := C
  intro H locs ls ho hl
  exact lv_lload hC.1 hC.2.1 hd (lv_at hl q hq) (kk H locs ls ho hl)
theorem v_aload_n {C : xC} {cc : ByteArray} {nL : Nat} {own : String} {Ts : List Cond} {w : cW} {k n pc : Nat} {lv : List (Nat × Value)} {st : List Value} {f : Fin 4} {i : Nat} {r : Option Nat} (hC : okC C cc nL own Ts) (hd : decode cc pc = .ok (.aload_n f, 1)) (hi : (f : Nat) = i) (q : Nat) (hq : lv[q]? = some (i, va_rf r)) (kk : V C w k n (pc + 1) lv (va_rf r :: st)) : V C w k n pc lv (st) := by
  obtain ⟨p, l, e, R, s, m, args, below, meth, c, Q, nL, G, w0⟩ := C
  intro H locs ls ho hl
  cases r with
  | none => exact lv_aload_nN hC.1 hC.2.1 hd hi (lv_at hl q hq) (kk H locs ls ho hl)
  | some r => exact lv_aload_n hC.1 hC.2.1 hd hi (lv_at hl q hq) (kk H locs ls ho hl)
theorem v_aload {C : xC} {cc : ByteArray} {nL : Nat} {own : String} {Ts : List Cond} {w : cW} {k n pc : Nat} {lv : List (Nat × Value)} {st : List Value} {i : Nat} {r : Option Nat} (hC : okC C cc nL own Ts) (hd : decode cc pc = .ok (.aload i, 2)) (q : Nat) (hq : lv[q]? = some (i, va_rf r)) (kk : V C w k n (pc + 2) lv (va_rf r :: st)) : V C w k n pc lv (st) := by
  obtain ⟨p, l, e, R, s, m, args, below, meth, c, Q, nL, G, w0⟩ := C
  intro H locs ls ho hl
  cases r with
  | none => exact lv_aloadN hC.1 hC.2.1 hd (lv_at hl q hq) (kk H locs ls ho hl)
  | some r => exact lv_aload hC.1 hC.2.1 hd (lv_at hl q hq) (kk H locs ls ho hl)
theorem v_istore_n {C : xC} {cc : ByteArray} {nL : Nat} {own : String} {Ts : List Cond} {w : cW} {k n pc : Nat} {lv : List (Nat × Value)} {st : List Value} {f : Fin 4} {i : Nat} {x : Int32} (hC : okC C cc nL own Ts) (hd : decode cc pc = .ok (.istore_n f, 1)) (hi : (f : Nat) = i) (hn : i < nL) (lv' : List (Nat × Value)) (hl' : (i, Value.int x) :: lv.filter (fun q => !(q.1 == i) && !(q.1 + 1 == i && q.2.category == 2)) = lv') (kk : V C w k n (pc + 1) lv' (st)) : V C w k n pc lv (.int x :: st) := by
  obtain ⟨p, l, e, R, s, m, args, below, meth, c, Q, nL, G, w0⟩ := C
  intro H locs ls ho hl
  exact lv_istore_n hC.1 hC.2.1 hd hi hl (by rw [hC.2.2.2.1]; exact hn) hl' (fun ls hl => kk H locs ls ho hl)
theorem v_istore {C : xC} {cc : ByteArray} {nL : Nat} {own : String} {Ts : List Cond} {w : cW} {k n pc : Nat} {lv : List (Nat × Value)} {st : List Value} {i : Nat} {x : Int32} (hC : okC C cc nL own Ts) (hd : decode cc pc = .ok (.istore i, 2)) (hn : i < nL) (lv' : List (Nat × Value)) (hl' : (i, Value.int x) :: lv.filter (fun q => !(q.1 == i) && !(q.1 + 1 == i && q.2.category == 2)) = lv') (kk : V C w k n (pc + 2) lv' (st)) : V C w k n pc lv (.int x :: st) := by
  obtain ⟨p, l, e, R, s, m, args, below, meth, c, Q, nL, G, w0⟩ := C
  intro H locs ls ho hl
  exact lv_istore hC.1 hC.2.1 hd hl (by rw [hC.2.2.2.1]; exact hn) hl' (fun ls hl => kk H locs ls ho hl)
theorem v_lstore_n {C : xC} {cc : ByteArray} {nL : Nat} {own : String} {Ts : List Cond} {w : cW} {k n pc : Nat} {lv : List (Nat × Value)} {st : List Value} {f : Fin 4} {i : Nat} {x : Int64} (hC : okC C cc nL own Ts) (hd : decode cc pc = .ok (.lstore_n f, 1)) (hi : (f : Nat) = i) (hn : i + 1 < nL) (lv' : List (Nat × Value)) (hl' : (i, Value.long x) :: lv.filter (fun q => !(q.1 == i) && (!(q.1 == i + 1) && !(q.1 + 1 == i && q.2.category == 2))) = lv') (kk : V C w k n (pc + 1) lv' (st)) : V C w k n pc lv (.long x :: st) := by
  obtain ⟨p, l, e, R, s, m, args, below, meth, c, Q, nL, G, w0⟩ := C
  intro H locs ls ho hl
  exact lv_lstore_n hC.1 hC.2.1 hd hi hl (by rw [hC.2.2.2.1]; exact hn) hl' (fun ls hl => kk H locs ls ho hl)
theorem v_lstore {C : xC} {cc : ByteArray} {nL : Nat} {own : String} {Ts : List Cond} {w : cW} {k n pc : Nat} {lv : List (Nat × Value)} {st : List Value} {i : Nat} {x : Int64} (hC : okC C cc nL own Ts) (hd : decode cc pc = .ok (.lstore i, 2)) (hn : i + 1 < nL) (lv' : List (Nat × Value)) (hl' : (i, Value.long x) :: lv.filter (fun q => !(q.1 == i) && (!(q.1 == i + 1) && !(q.1 + 1 == i && q.2.category == 2))) = lv') (kk : V C w k n (pc + 2) lv' (st)) : V C w k n pc lv (.long x :: st) := by
  obtain ⟨p, l, e, R, s, m, args, below, meth, c, Q, nL, G, w0⟩ := C
  intro H locs ls ho hl
  exact lv_lstore hC.1 hC.2.1 hd hl (by rw [hC.2.2.2.1]; exact hn) hl' (fun ls hl => kk H locs ls ho hl)
theorem v_astore_n {C : xC} {cc : ByteArray} {nL : Nat} {own : String} {Ts : List Cond} {w : cW} {k n pc : Nat} {lv : List (Nat × Value)} {st : List Value} {f : Fin 4} {i : Nat} {r : Option Nat} (hC : okC C cc nL own Ts) (hd : decode cc pc = .ok (.astore_n f, 1)) (hi : (f : Nat) = i) (hn : i < nL) (lv' : List (Nat × Value)) (hl' : (i, va_rf r) :: lv.filter (fun q => !(q.1 == i) && !(q.1 + 1 == i && q.2.category == 2)) = lv') (kk : V C w k n (pc + 1) lv' (st)) : V C w k n pc lv (va_rf r :: st) := by
  obtain ⟨p, l, e, R, s, m, args, below, meth, c, Q, nL, G, w0⟩ := C
  intro H locs ls ho hl
  cases r with
  | none => exact lv_astore_nN hC.1 hC.2.1 hd hi hl (by rw [hC.2.2.2.1]; exact hn) hl' (fun ls hl => kk H locs ls ho hl)
  | some r => exact lv_astore_n hC.1 hC.2.1 hd hi hl (by rw [hC.2.2.2.1]; exact hn) hl' (fun ls hl => kk H locs ls ho hl)
theorem v_astore {C : xC} {cc : ByteArray} {nL : Nat} {own : String} {Ts : List Cond} {w : cW} {k n pc : Nat} {lv : List (Nat × Value)} {st : List Value} {i : Nat} {r : Option Nat} (hC : okC C cc nL own Ts) (hd : decode cc pc = .ok (.astore i, 2)) (hn : i < nL) (lv' : List (Nat × Value)) (hl' : (i, va_rf r) :: lv.filter (fun q => !(q.1 == i) && !(q.1 + 1 == i && q.2.category == 2)) = lv') (kk : V C w k n (pc + 2) lv' (st)) : V C w k n pc lv (va_rf r :: st) := by
  obtain ⟨p, l, e, R, s, m, args, below, meth, c, Q, nL, G, w0⟩ := C
  intro H locs ls ho hl
  cases r with
  | none => exact lv_astoreN hC.1 hC.2.1 hd hl (by rw [hC.2.2.2.1]; exact hn) hl' (fun ls hl => kk H locs ls ho hl)
  | some r => exact lv_astore hC.1 hC.2.1 hd hl (by rw [hC.2.2.2.1]; exact hn) hl' (fun ls hl => kk H locs ls ho hl)
theorem v_iinc {C : xC} {cc : ByteArray} {nL : Nat} {own : String} {Ts : List Cond} {w : cW} {k n pc : Nat} {lv : List (Nat × Value)} {st : List Value} {i : Nat} {j : Int} {x v : Int32} (hC : okC C cc nL own Ts) (hd : decode cc pc = .ok (.iinc i j, 3)) (q : Nat) (hq : lv[q]? = some (i, .int x)) (hv : x + Int32.ofInt j = v) (hn : i < nL) (lv' : List (Nat × Value)) (hl' : (i, Value.int v) :: lv.filter (fun q => !(q.1 == i) && !(q.1 + 1 == i && q.2.category == 2)) = lv') (kk : V C w k n (pc + 3) lv' (st)) : V C w k n pc lv (st) := by
  obtain ⟨p, l, e, R, s, m, args, below, meth, c, Q, nL, G, w0⟩ := C
  intro H locs ls ho hl
  exact lv_iinc hC.1 hC.2.1 hd hl hq hv (by rw [hC.2.2.2.1]; exact hn) hl' (fun ls hl => kk H locs ls ho hl)
theorem v_namei {C : xC} {w : cW} {k n pc : Nat} {lv : List (Nat × Value)} {st : List Value} {x y : Int32} (e : y = x) (kk : V C w k n pc lv (.int y :: st)) : V C w k n pc lv (.int x :: st) := e ▸ kk
theorem v_namel {C : xC} {w : cW} {k n pc : Nat} {lv : List (Nat × Value)} {st : List Value} {x y : Int64} (e : y = x) (kk : V C w k n pc lv (.long y :: st)) : V C w k n pc lv (.long x :: st) := e ▸ kk
theorem v_bndi {C : xC} {w : cW} {k n pc : Nat} {lv : List (Nat × Value)} {st : List Value} {β : Type} {x : Int32} {F : Int32 → Option β} {r : β} (hf : bnd x F = some r) (kk : ∀ y : Int32, F y = some r → V C w k n pc lv (.int y :: st)) : V C w k n pc lv (.int x :: st) := kk x hf
theorem v_bndl {C : xC} {w : cW} {k n pc : Nat} {lv : List (Nat × Value)} {st : List Value} {β : Type} {x : Int64} {F : Int64 → Option β} {r : β} (hf : bnd x F = some r) (kk : ∀ y : Int64, F y = some r → V C w k n pc lv (.long y :: st)) : V C w k n pc lv (.long x :: st) := kk x hf
theorem v_iadd {C : xC} {cc : ByteArray} {nL : Nat} {own : String} {Ts : List Cond} {w : cW} {k n pc : Nat} {lv : List (Nat × Value)} {st : List Value} {x y : Int32} (hC : okC C cc nL own Ts) (hd : decode cc pc = .ok (.iadd, 1)) (kk : V C w k n (pc + 1) lv (.int (x + y) :: st)) : V C w k n pc lv (.int y :: .int x :: st) := by
  obtain ⟨p, l, e, R, s, m, args, below, meth, c, Q, nL, G, w0⟩ := C
  intro H locs ls ho hl
  exact lv_iadd hC.1 hC.2.1 hd (kk H locs ls ho hl)
theorem v_isub {C : xC} {cc : ByteArray} {nL : Nat} {own : String} {Ts : List Cond} {w : cW} {k n pc : Nat} {lv : List (Nat × Value)} {st : List Value} {x y : Int32} (hC : okC C cc nL own Ts) (hd : decode cc pc = .ok (.isub, 1)) (kk : V C w k n (pc + 1) lv (.int (x - y) :: st)) : V C w k n pc lv (.int y :: .int x :: st) := by
  obtain ⟨p, l, e, R, s, m, args, below, meth, c, Q, nL, G, w0⟩ := C
  intro H locs ls ho hl
  exact lv_isub hC.1 hC.2.1 hd (kk H locs ls ho hl)
theorem v_imul {C : xC} {cc : ByteArray} {nL : Nat} {own : String} {Ts : List Cond} {w : cW} {k n pc : Nat} {lv : List (Nat × Value)} {st : List Value} {x y : Int32} (hC : okC C cc nL own Ts) (hd : decode cc pc = .ok (.imul, 1)) (kk : V C w k n (pc + 1) lv (.int (x * y) :: st)) : V C w k n pc lv (.int y :: .int x :: st) := by
  obtain ⟨p, l, e, R, s, m, args, below, meth, c, Q, nL, G, w0⟩ := C
  intro H locs ls ho hl
  exact lv_imul hC.1 hC.2.1 hd (kk H locs ls ho hl)
theorem v_iand {C : xC} {cc : ByteArray} {nL : Nat} {own : String} {Ts : List Cond} {w : cW} {k n pc : Nat} {lv : List (Nat × Value)} {st : List Value} {x y : Int32} (hC : okC C cc nL own Ts) (hd : decode cc pc = .ok (.iand, 1)) (kk : V C w k n (pc + 1) lv (.int (x &&& y) :: st)) : V C w k n pc lv (.int y :: .int x :: st) := by
  obtain ⟨p, l, e, R, s, m, args, below, meth, c, Q, nL, G, w0⟩ := C
  intro H locs ls ho hl
  exact lv_iand hC.1 hC.2.1 hd (kk H locs ls ho hl)
theorem v_ior {C : xC} {cc : ByteArray} {nL : Nat} {own : String} {Ts : List Cond} {w : cW} {k n pc : Nat} {lv : List (Nat × Value)} {st : List Value} {x y : Int32} (hC : okC C cc nL own Ts) (hd : decode cc pc = .ok (.ior, 1)) (kk : V C w k n (pc + 1) lv (.int (x ||| y) :: st)) : V C w k n pc lv (.int y :: .int x :: st) := by
  obtain ⟨p, l, e, R, s, m, args, below, meth, c, Q, nL, G, w0⟩ := C
  intro H locs ls ho hl
  exact lv_ior hC.1 hC.2.1 hd (kk H locs ls ho hl)
theorem v_ixor {C : xC} {cc : ByteArray} {nL : Nat} {own : String} {Ts : List Cond} {w : cW} {k n pc : Nat} {lv : List (Nat × Value)} {st : List Value} {x y : Int32} (hC : okC C cc nL own Ts) (hd : decode cc pc = .ok (.ixor, 1)) (kk : V C w k n (pc + 1) lv (.int (x ^^^ y) :: st)) : V C w k n pc lv (.int y :: .int x :: st) := by
  obtain ⟨p, l, e, R, s, m, args, below, meth, c, Q, nL, G, w0⟩ := C
  intro H locs ls ho hl
  exact lv_ixor hC.1 hC.2.1 hd (kk H locs ls ho hl)
theorem v_idiv {C : xC} {cc : ByteArray} {nL : Nat} {own : String} {Ts : List Cond} {w : cW} {k n pc : Nat} {lv : List (Nat × Value)} {st : List Value} {x y : Int32} (hC : okC C cc nL own Ts) (hd : decode cc pc = .ok (.idiv, 1)) (hne : ¬ y = 0) (kk : V C w k n (pc + 1) lv (.int (x / y) :: st)) : V C w k n pc lv (.int y :: .int x :: st) := by
  obtain ⟨p, l, e, R, s, m, args, below, meth, c, Q, nL, G, w0⟩ := C
  intro H locs ls ho hl
  exact lv_idiv hC.1 hC.2.1 hd hne (kk H locs ls ho hl)
theorem v_irem {C : xC} {cc : ByteArray} {nL : Nat} {own : String} {Ts : List Cond} {w : cW} {k n pc : Nat} {lv : List (Nat × Value)} {st : List Value} {x y : Int32} (hC : okC C cc nL own Ts) (hd : decode cc pc = .ok (.irem, 1)) (hne : ¬ y = 0) (kk : V C w k n (pc + 1) lv (.int (x - (x / y) * y) :: st)) : V C w k n pc lv (.int y :: .int x :: st) := by
  obtain ⟨p, l, e, R, s, m, args, below, meth, c, Q, nL, G, w0⟩ := C
  intro H locs ls ho hl
  exact lv_irem hC.1 hC.2.1 hd hne (kk H locs ls ho hl)
theorem v_ladd {C : xC} {cc : ByteArray} {nL : Nat} {own : String} {Ts : List Cond} {w : cW} {k n pc : Nat} {lv : List (Nat × Value)} {st : List Value} {x y : Int64} (hC : okC C cc nL own Ts) (hd : decode cc pc = .ok (.ladd, 1)) (kk : V C w k n (pc + 1) lv (.long (x + y) :: st)) : V C w k n pc lv (.long y :: .long x :: st) := by
  obtain ⟨p, l, e, R, s, m, args, below, meth, c, Q, nL, G, w0⟩ := C
  intro H locs ls ho hl
  exact lv_ladd hC.1 hC.2.1 hd (kk H locs ls ho hl)
theorem v_lsub {C : xC} {cc : ByteArray} {nL : Nat} {own : String} {Ts : List Cond} {w : cW} {k n pc : Nat} {lv : List (Nat × Value)} {st : List Value} {x y : Int64} (hC : okC C cc nL own Ts) (hd : decode cc pc = .ok (.lsub, 1)) (kk : V C w k n (pc + 1) lv (.long (x - y) :: st)) : V C w k n pc lv (.long y :: .long x :: st) := by
  obtain ⟨p, l, e, R, s, m, args, below, meth, c, Q, nL, G, w0⟩ := C
  intro H locs ls ho hl
  exact lv_lsub hC.1 hC.2.1 hd (kk H locs ls ho hl)
theorem v_lmul {C : xC} {cc : ByteArray} {nL : Nat} {own : String} {Ts : List Cond} {w : cW} {k n pc : Nat} {lv : List (Nat × Value)} {st : List Value} {x y : Int64} (hC : okC C cc nL own Ts) (hd : decode cc pc = .ok (.lmul, 1)) (kk : V C w k n (pc + 1) lv (.long (x * y) :: st)) : V C w k n pc lv (.long y :: .long x :: st) := by
  obtain ⟨p, l, e, R, s, m, args, below, meth, c, Q, nL, G, w0⟩ := C
  intro H locs ls ho hl
  exact lv_lmul hC.1 hC.2.1 hd (kk H locs ls ho hl)
theorem v_ldiv {C : xC} {cc : ByteArray} {nL : Nat} {own : String} {Ts : List Cond} {w : cW} {k n pc : Nat} {lv : List (Nat × Value)} {st : List Value} {x y : Int64} (hC : okC C cc nL own Ts) (hd : decode cc pc = .ok (.ldiv, 1)) (hne : ¬ y = 0) (kk : V C w k n (pc + 1) lv (.long (x / y) :: st)) : V C w k n pc lv (.long y :: .long x :: st) := by
  obtain ⟨p, l, e, R, s, m, args, below, meth, c, Q, nL, G, w0⟩ := C
  intro H locs ls ho hl
  exact lv_ldiv hC.1 hC.2.1 hd hne (kk H locs ls ho hl)
theorem v_ineg {C : xC} {cc : ByteArray} {nL : Nat} {own : String} {Ts : List Cond} {w : cW} {k n pc : Nat} {lv : List (Nat × Value)} {st : List Value} {x : Int32} (hC : okC C cc nL own Ts) (hd : decode cc pc = .ok (.ineg, 1)) (kk : V C w k n (pc + 1) lv (.int (-x) :: st)) : V C w k n pc lv (.int x :: st) := by
  obtain ⟨p, l, e, R, s, m, args, below, meth, c, Q, nL, G, w0⟩ := C
  intro H locs ls ho hl
  exact lv_ineg hC.1 hC.2.1 hd (kk H locs ls ho hl)
theorem v_lneg {C : xC} {cc : ByteArray} {nL : Nat} {own : String} {Ts : List Cond} {w : cW} {k n pc : Nat} {lv : List (Nat × Value)} {st : List Value} {x : Int64} (hC : okC C cc nL own Ts) (hd : decode cc pc = .ok (.lneg, 1)) (kk : V C w k n (pc + 1) lv (.long (-x) :: st)) : V C w k n pc lv (.long x :: st) := by
  obtain ⟨p, l, e, R, s, m, args, below, meth, c, Q, nL, G, w0⟩ := C
  intro H locs ls ho hl
  exact lv_lneg hC.1 hC.2.1 hd (kk H locs ls ho hl)
theorem v_i2l {C : xC} {cc : ByteArray} {nL : Nat} {own : String} {Ts : List Cond} {w : cW} {k n pc : Nat} {lv : List (Nat × Value)} {st : List Value} {x : Int32} (hC : okC C cc nL own Ts) (hd : decode cc pc = .ok (.i2l, 1)) (kk : V C w k n (pc + 1) lv (.long x.toInt64 :: st)) : V C w k n pc lv (.int x :: st) := by
  obtain ⟨p, l, e, R, s, m, args, below, meth, c, Q, nL, G, w0⟩ := C
  intro H locs ls ho hl
  exact lv_i2l hC.1 hC.2.1 hd rfl (kk H locs ls ho hl)
theorem v_l2i {C : xC} {cc : ByteArray} {nL : Nat} {own : String} {Ts : List Cond} {w : cW} {k n pc : Nat} {lv : List (Nat × Value)} {st : List Value} {x : Int64} (hC : okC C cc nL own Ts) (hd : decode cc pc = .ok (.l2i, 1)) (kk : V C w k n (pc + 1) lv (.int x.toInt32 :: st)) : V C w k n pc lv (.long x :: st) := by
  obtain ⟨p, l, e, R, s, m, args, below, meth, c, Q, nL, G, w0⟩ := C
  intro H locs ls ho hl
  exact lv_l2i hC.1 hC.2.1 hd rfl (kk H locs ls ho hl)
theorem v_lshl {C : xC} {cc : ByteArray} {nL : Nat} {own : String} {Ts : List Cond} {w : cW} {k n pc : Nat} {lv : List (Nat × Value)} {st : List Value} {x : Int64} {y : Int32} (hC : okC C cc nL own Ts) (hd : decode cc pc = .ok (.lshl, 1)) (kk : V C w k n (pc + 1) lv (.long (x <<< (y.toInt64 &&& 63)) :: st)) : V C w k n pc lv (.int y :: .long x :: st) := by
  obtain ⟨p, l, e, R, s, m, args, below, meth, c, Q, nL, G, w0⟩ := C
  intro H locs ls ho hl
  exact lv_lshl hC.1 hC.2.1 hd rfl (kk H locs ls ho hl)
theorem v_ishr {C : xC} {cc : ByteArray} {nL : Nat} {own : String} {Ts : List Cond} {w : cW} {k n pc : Nat} {lv : List (Nat × Value)} {st : List Value} {x y : Int32} (hC : okC C cc nL own Ts) (hd : decode cc pc = .ok (.ishr, 1)) (kk : V C w k n (pc + 1) lv (.int (x >>> (y &&& 31)) :: st)) : V C w k n pc lv (.int y :: .int x :: st) := by
  obtain ⟨p, l, e, R, s, m, args, below, meth, c, Q, nL, G, w0⟩ := C
  intro H locs ls ho hl
  exact lv_ishr hC.1 hC.2.1 hd (kk H locs ls ho hl)
theorem v_lcmp {C : xC} {cc : ByteArray} {nL : Nat} {own : String} {Ts : List Cond} {w : cW} {k n pc : Nat} {lv : List (Nat × Value)} {st : List Value} {x y : Int64} (hC : okC C cc nL own Ts) (hd : decode cc pc = .ok (.lcmp, 1)) (kk : V C w k n (pc + 1) lv (.int (lg_cmp x y) :: st)) : V C w k n pc lv (.long y :: .long x :: st) := by
  obtain ⟨p, l, e, R, s, m, args, below, meth, c, Q, nL, G, w0⟩ := C
  intro H locs ls ho hl
  exact W.lcmp hC.1 hC.2.1 hd (kk H locs ls ho hl)
theorem v_dup {C : xC} {cc : ByteArray} {nL : Nat} {own : String} {Ts : List Cond} {w : cW} {k n pc : Nat} {lv : List (Nat × Value)} {st : List Value} {a : Value} (hC : okC C cc nL own Ts) (hd : decode cc pc = .ok (.dup, 1)) (ha : a.category = 1) (kk : V C w k n (pc + 1) lv (a :: a :: st)) : V C w k n pc lv (a :: st) := by
  obtain ⟨p, l, e, R, s, m, args, below, meth, c, Q, nL, G, w0⟩ := C
  intro H locs ls ho hl
  exact lv_dup hC.1 hC.2.1 hd ha (kk H locs ls ho hl)
theorem v_dupR {C : xC} {cc : ByteArray} {nL : Nat} {own : String} {Ts : List Cond} {w : cW} {k n pc : Nat} {lv : List (Nat × Value)} {st : List Value} {r : Option Nat} (hC : okC C cc nL own Ts) (hd : decode cc pc = .ok (.dup, 1)) (kk : V C w k n (pc + 1) lv (va_rf r :: va_rf r :: st)) : V C w k n pc lv (va_rf r :: st) := by
  obtain ⟨p, l, e, R, s, m, args, below, meth, c, Q, nL, G, w0⟩ := C
  intro H locs ls ho hl
  exact lv_dup hC.1 hC.2.1 hd (by cases r <;> rfl) (kk H locs ls ho hl)
theorem v_pop {C : xC} {cc : ByteArray} {nL : Nat} {own : String} {Ts : List Cond} {w : cW} {k n pc : Nat} {lv : List (Nat × Value)} {st : List Value} {a : Value} (hC : okC C cc nL own Ts) (hd : decode cc pc = .ok (.pop, 1)) (ha : a.category = 1) (kk : V C w k n (pc + 1) lv (st)) : V C w k n pc lv (a :: st) := by
  obtain ⟨p, l, e, R, s, m, args, below, meth, c, Q, nL, G, w0⟩ := C
  intro H locs ls ho hl
  exact lv_pop hC.1 hC.2.1 hd ha (kk H locs ls ho hl)
theorem v_dup_x1R {C : xC} {cc : ByteArray} {nL : Nat} {own : String} {Ts : List Cond} {w : cW} {k n pc : Nat} {lv : List (Nat × Value)} {st : List Value} {r : Option Nat} {x : Int32} (hC : okC C cc nL own Ts) (hd : decode cc pc = .ok (.dup_x1, 1)) (kk : V C w k n (pc + 1) lv (.int x :: va_rf r :: .int x :: st)) : V C w k n pc lv (.int x :: va_rf r :: st) := by
  obtain ⟨p, l, e, R, s, m, args, below, meth, c, Q, nL, G, w0⟩ := C
  intro H locs ls ho hl
  exact lv_dup_x1 hC.1 hC.2.1 hd rfl (by cases r <;> rfl) (kk H locs ls ho hl)
theorem v_dup_x1RR {C : xC} {cc : ByteArray} {nL : Nat} {own : String} {Ts : List Cond} {w : cW} {k n pc : Nat} {lv : List (Nat × Value)} {st : List Value} {r x : Option Nat} (hC : okC C cc nL own Ts) (hd : decode cc pc = .ok (.dup_x1, 1)) (kk : V C w k n (pc + 1) lv (va_rf x :: va_rf r :: va_rf x :: st)) : V C w k n pc lv (va_rf x :: va_rf r :: st) := by
  obtain ⟨p, l, e, R, s, m, args, below, meth, c, Q, nL, G, w0⟩ := C
  intro H locs ls ho hl
  exact lv_dup_x1 hC.1 hC.2.1 hd (by cases x <;> rfl) (by cases r <;> rfl) (kk H locs ls ho hl)
theorem v_if_eq {C : xC} {cc : ByteArray} {nL : Nat} {own : String} {Ts : List Cond} {w : cW} {k n pc : Nat} {lv : List (Nat × Value)} {st : List Value} {x : Int32} {off : Int} {tgt : Nat} {β : Type} {A B : Option β} {r : β} (hC : okC C cc nL own Ts) (hd : decode cc pc = .ok (.ifCond .eq off, 3)) (ht : (pc : Int) + off = (tgt : Int)) (hf : (if x = 0 then A else B) = some r) (kt : A = some r → V C w k n tgt lv (st)) (kf : B = some r → V C w k n (pc + 3) lv (st)) : V C w k n pc lv (.int x :: st) := by
  obtain ⟨p, l, e, R, s, m, args, below, meth, c, Q, nL, G, w0⟩ := C
  intro H locs ls ho hl
  exact lv_if_eq hC.1 hC.2.1 hd ht (fun h => kt (by rw [if_pos h] at hf; exact hf) H locs ls ho hl) (fun h => kf (by rw [if_neg h] at hf; exact hf) H locs ls ho hl)
theorem v_icmp_eq {C : xC} {cc : ByteArray} {nL : Nat} {own : String} {Ts : List Cond} {w : cW} {k n pc : Nat} {lv : List (Nat × Value)} {st : List Value} {x y : Int32} {off : Int} {tgt : Nat} {β : Type} {A B : Option β} {r : β} (hC : okC C cc nL own Ts) (hd : decode cc pc = .ok (.if_icmp .eq off, 3)) (ht : (pc : Int) + off = (tgt : Int)) (hf : (if x = y then A else B) = some r) (kt : A = some r → V C w k n tgt lv (st)) (kf : B = some r → V C w k n (pc + 3) lv (st)) : V C w k n pc lv (.int y :: .int x :: st) := by
  obtain ⟨p, l, e, R, s, m, args, below, meth, c, Q, nL, G, w0⟩ := C
  intro H locs ls ho hl
  exact lv_icmp_eq hC.1 hC.2.1 hd ht (fun h => kt (by rw [if_pos h] at hf; exact hf) H locs ls ho hl) (fun h => kf (by rw [if_neg h] at hf; exact hf) H locs ls ho hl)
theorem v_if_lt {C : xC} {cc : ByteArray} {nL : Nat} {own : String} {Ts : List Cond} {w : cW} {k n pc : Nat} {lv : List (Nat × Value)} {st : List Value} {x : Int32} {off : Int} {tgt : Nat} {β : Type} {A B : Option β} {r : β} (hC : okC C cc nL own Ts) (hd : decode cc pc = .ok (.ifCond .lt off, 3)) (ht : (pc : Int) + off = (tgt : Int)) (hf : (if x < 0 then A else B) = some r) (kt : A = some r → V C w k n tgt lv (st)) (kf : B = some r → V C w k n (pc + 3) lv (st)) : V C w k n pc lv (.int x :: st) := by
  obtain ⟨p, l, e, R, s, m, args, below, meth, c, Q, nL, G, w0⟩ := C
  intro H locs ls ho hl
  exact lv_if_lt hC.1 hC.2.1 hd ht (fun h => kt (by rw [if_pos h] at hf; exact hf) H locs ls ho hl) (fun h => kf (by rw [if_neg h] at hf; exact hf) H locs ls ho hl)
theorem v_icmp_lt {C : xC} {cc : ByteArray} {nL : Nat} {own : String} {Ts : List Cond} {w : cW} {k n pc : Nat} {lv : List (Nat × Value)} {st : List Value} {x y : Int32} {off : Int} {tgt : Nat} {β : Type} {A B : Option β} {r : β} (hC : okC C cc nL own Ts) (hd : decode cc pc = .ok (.if_icmp .lt off, 3)) (ht : (pc : Int) + off = (tgt : Int)) (hf : (if x < y then A else B) = some r) (kt : A = some r → V C w k n tgt lv (st)) (kf : B = some r → V C w k n (pc + 3) lv (st)) : V C w k n pc lv (.int y :: .int x :: st) := by
  obtain ⟨p, l, e, R, s, m, args, below, meth, c, Q, nL, G, w0⟩ := C
  intro H locs ls ho hl
  exact lv_icmp_lt hC.1 hC.2.1 hd ht (fun h => kt (by rw [if_pos h] at hf; exact hf) H locs ls ho hl) (fun h => kf (by rw [if_neg h] at hf; exact hf) H locs ls ho hl)
theorem v_if_ge {C : xC} {cc : ByteArray} {nL : Nat} {own : String} {Ts : List Cond} {w : cW} {k n pc : Nat} {lv : List (Nat × Value)} {st : List Value} {x : Int32} {off : Int} {tgt : Nat} {β : Type} {A B : Option β} {r : β} (hC : okC C cc nL own Ts) (hd : decode cc pc = .ok (.ifCond .ge off, 3)) (ht : (pc : Int) + off = (tgt : Int)) (hf : (if 0 ≤ x then A else B) = some r) (kt : A = some r → V C w k n tgt lv (st)) (kf : B = some r → V C w k n (pc + 3) lv (st)) : V C w k n pc lv (.int x :: st) := by
  obtain ⟨p, l, e, R, s, m, args, below, meth, c, Q, nL, G, w0⟩ := C
  intro H locs ls ho hl
  exact lv_if_ge hC.1 hC.2.1 hd ht (fun h => kt (by rw [if_pos h] at hf; exact hf) H locs ls ho hl) (fun h => kf (by rw [if_neg h] at hf; exact hf) H locs ls ho hl)
theorem v_icmp_ge {C : xC} {cc : ByteArray} {nL : Nat} {own : String} {Ts : List Cond} {w : cW} {k n pc : Nat} {lv : List (Nat × Value)} {st : List Value} {x y : Int32} {off : Int} {tgt : Nat} {β : Type} {A B : Option β} {r : β} (hC : okC C cc nL own Ts) (hd : decode cc pc = .ok (.if_icmp .ge off, 3)) (ht : (pc : Int) + off = (tgt : Int)) (hf : (if y ≤ x then A else B) = some r) (kt : A = some r → V C w k n tgt lv (st)) (kf : B = some r → V C w k n (pc + 3) lv (st)) : V C w k n pc lv (.int y :: .int x :: st) := by
  obtain ⟨p, l, e, R, s, m, args, below, meth, c, Q, nL, G, w0⟩ := C
  intro H locs ls ho hl
  exact lv_icmp_ge hC.1 hC.2.1 hd ht (fun h => kt (by rw [if_pos h] at hf; exact hf) H locs ls ho hl) (fun h => kf (by rw [if_neg h] at hf; exact hf) H locs ls ho hl)
theorem v_if_gt {C : xC} {cc : ByteArray} {nL : Nat} {own : String} {Ts : List Cond} {w : cW} {k n pc : Nat} {lv : List (Nat × Value)} {st : List Value} {x : Int32} {off : Int} {tgt : Nat} {β : Type} {A B : Option β} {r : β} (hC : okC C cc nL own Ts) (hd : decode cc pc = .ok (.ifCond .gt off, 3)) (ht : (pc : Int) + off = (tgt : Int)) (hf : (if 0 < x then A else B) = some r) (kt : A = some r → V C w k n tgt lv (st)) (kf : B = some r → V C w k n (pc + 3) lv (st)) : V C w k n pc lv (.int x :: st) := by
  obtain ⟨p, l, e, R, s, m, args, below, meth, c, Q, nL, G, w0⟩ := C
  intro H locs ls ho hl
  exact lv_if_gt hC.1 hC.2.1 hd ht (fun h => kt (by rw [if_pos h] at hf; exact hf) H locs ls ho hl) (fun h => kf (by rw [if_neg h] at hf; exact hf) H locs ls ho hl)
theorem v_icmp_gt {C : xC} {cc : ByteArray} {nL : Nat} {own : String} {Ts : List Cond} {w : cW} {k n pc : Nat} {lv : List (Nat × Value)} {st : List Value} {x y : Int32} {off : Int} {tgt : Nat} {β : Type} {A B : Option β} {r : β} (hC : okC C cc nL own Ts) (hd : decode cc pc = .ok (.if_icmp .gt off, 3)) (ht : (pc : Int) + off = (tgt : Int)) (hf : (if y < x then A else B) = some r) (kt : A = some r → V C w k n tgt lv (st)) (kf : B = some r → V C w k n (pc + 3) lv (st)) : V C w k n pc lv (.int y :: .int x :: st) := by
  obtain ⟨p, l, e, R, s, m, args, below, meth, c, Q, nL, G, w0⟩ := C
  intro H locs ls ho hl
  exact lv_icmp_gt hC.1 hC.2.1 hd ht (fun h => kt (by rw [if_pos h] at hf; exact hf) H locs ls ho hl) (fun h => kf (by rw [if_neg h] at hf; exact hf) H locs ls ho hl)
theorem v_if_le {C : xC} {cc : ByteArray} {nL : Nat} {own : String} {Ts : List Cond} {w : cW} {k n pc : Nat} {lv : List (Nat × Value)} {st : List Value} {x : Int32} {off : Int} {tgt : Nat} {β : Type} {A B : Option β} {r : β} (hC : okC C cc nL own Ts) (hd : decode cc pc = .ok (.ifCond .le off, 3)) (ht : (pc : Int) + off = (tgt : Int)) (hf : (if x ≤ 0 then A else B) = some r) (kt : A = some r → V C w k n tgt lv (st)) (kf : B = some r → V C w k n (pc + 3) lv (st)) : V C w k n pc lv (.int x :: st) := by
  obtain ⟨p, l, e, R, s, m, args, below, meth, c, Q, nL, G, w0⟩ := C
  intro H locs ls ho hl
  exact lv_if_le hC.1 hC.2.1 hd ht (fun h => kt (by rw [if_pos h] at hf; exact hf) H locs ls ho hl) (fun h => kf (by rw [if_neg h] at hf; exact hf) H locs ls ho hl)
theorem v_icmp_le {C : xC} {cc : ByteArray} {nL : Nat} {own : String} {Ts : List Cond} {w : cW} {k n pc : Nat} {lv : List (Nat × Value)} {st : List Value} {x y : Int32} {off : Int} {tgt : Nat} {β : Type} {A B : Option β} {r : β} (hC : okC C cc nL own Ts) (hd : decode cc pc = .ok (.if_icmp .le off, 3)) (ht : (pc : Int) + off = (tgt : Int)) (hf : (if x ≤ y then A else B) = some r) (kt : A = some r → V C w k n tgt lv (st)) (kf : B = some r → V C w k n (pc + 3) lv (st)) : V C w k n pc lv (.int y :: .int x :: st) := by
  obtain ⟨p, l, e, R, s, m, args, below, meth, c, Q, nL, G, w0⟩ := C
  intro H locs ls ho hl
  exact lv_icmp_le hC.1 hC.2.1 hd ht (fun h => kt (by rw [if_pos h] at hf; exact hf) H locs ls ho hl) (fun h => kf (by rw [if_neg h] at hf; exact hf) H locs ls ho hl)
theorem v_if_ne {C : xC} {cc : ByteArray} {nL : Nat} {own : String} {Ts : List Cond} {w : cW} {k n pc : Nat} {lv : List (Nat × Value)} {st : List Value} {x : Int32} {off : Int} {tgt : Nat} {β : Type} {A B : Option β} {r : β} (hC : okC C cc nL own Ts) (hd : decode cc pc = .ok (.ifCond .ne off, 3)) (ht : (pc : Int) + off = (tgt : Int)) (hf : (if x = 0 then A else B) = some r) (kt : B = some r → V C w k n tgt lv (st)) (kf : A = some r → V C w k n (pc + 3) lv (st)) : V C w k n pc lv (.int x :: st) := by
  obtain ⟨p, l, e, R, s, m, args, below, meth, c, Q, nL, G, w0⟩ := C
  intro H locs ls ho hl
  exact lv_if_ne hC.1 hC.2.1 hd ht (fun h => kt (by rw [if_neg h] at hf; exact hf) H locs ls ho hl) (fun h => kf (by (try rw [Decidable.not_not] at h); rw [if_pos h] at hf; exact hf) H locs ls ho hl)
theorem v_icmp_ne {C : xC} {cc : ByteArray} {nL : Nat} {own : String} {Ts : List Cond} {w : cW} {k n pc : Nat} {lv : List (Nat × Value)} {st : List Value} {x y : Int32} {off : Int} {tgt : Nat} {β : Type} {A B : Option β} {r : β} (hC : okC C cc nL own Ts) (hd : decode cc pc = .ok (.if_icmp .ne off, 3)) (ht : (pc : Int) + off = (tgt : Int)) (hf : (if x = y then A else B) = some r) (kt : B = some r → V C w k n tgt lv (st)) (kf : A = some r → V C w k n (pc + 3) lv (st)) : V C w k n pc lv (.int y :: .int x :: st) := by
  obtain ⟨p, l, e, R, s, m, args, below, meth, c, Q, nL, G, w0⟩ := C
  intro H locs ls ho hl
  exact lv_icmp_ne hC.1 hC.2.1 hd ht (fun h => kt (by rw [if_neg h] at hf; exact hf) H locs ls ho hl) (fun h => kf (by (try rw [Decidable.not_not] at h); rw [if_pos h] at hf; exact hf) H locs ls ho hl)
theorem v_acmp_eq {C : xC} {cc : ByteArray} {nL : Nat} {own : String} {Ts : List Cond} {w : cW} {k n pc : Nat} {lv : List (Nat × Value)} {st : List Value} {rx ry : Option Nat} {off : Int} {tgt : Nat} {β : Type} {A B : Option β} {r : β} (hC : okC C cc nL own Ts) (hd : decode cc pc = .ok (.if_acmp .eq off, 3)) (ht : (pc : Int) + off = (tgt : Int)) (hf : (if rx = ry then A else B) = some r) (kt : A = some r → V C w k n tgt lv (st)) (kf : B = some r → V C w k n (pc + 3) lv (st)) : V C w k n pc lv (va_rf ry :: va_rf rx :: st) := by
  obtain ⟨p, l, e, R, s, m, args, below, meth, c, Q, nL, G, w0⟩ := C
  intro H locs ls ho hl
  exact lv_acmp_eq hC.1 hC.2.1 hd ht (fun h => kt (by rw [if_pos h] at hf; exact hf) H locs ls ho hl) (fun h => kf (by rw [if_neg h] at hf; exact hf) H locs ls ho hl)
theorem v_acmp_ne {C : xC} {cc : ByteArray} {nL : Nat} {own : String} {Ts : List Cond} {w : cW} {k n pc : Nat} {lv : List (Nat × Value)} {st : List Value} {rx ry : Option Nat} {off : Int} {tgt : Nat} {β : Type} {A B : Option β} {r : β} (hC : okC C cc nL own Ts) (hd : decode cc pc = .ok (.if_acmp .ne off, 3)) (ht : (pc : Int) + off = (tgt : Int)) (hf : (if rx = ry then A else B) = some r) (kt : B = some r → V C w k n tgt lv (st)) (kf : A = some r → V C w k n (pc + 3) lv (st)) : V C w k n pc lv (va_rf ry :: va_rf rx :: st) := by
  obtain ⟨p, l, e, R, s, m, args, below, meth, c, Q, nL, G, w0⟩ := C
  intro H locs ls ho hl
  exact lv_acmp_ne hC.1 hC.2.1 hd ht (fun h => kt (by rw [if_neg h] at hf; exact hf) H locs ls ho hl) (fun h => kf (by rw [if_pos h] at hf; exact hf) H locs ls ho hl)
theorem v_ifnull {C : xC} {cc : ByteArray} {nL : Nat} {own : String} {Ts : List Cond} {w : cW} {k n pc : Nat} {lv : List (Nat × Value)} {st : List Value} {rx : Option Nat} {off : Int} {tgt : Nat} {β : Type} {A B : Option β} {r : β} (hC : okC C cc nL own Ts) (hd : decode cc pc = .ok (.ifnull off, 3)) (ht : (pc : Int) + off = (tgt : Int)) (hf : (if rx = none then A else B) = some r) (kt : A = some r → V C w k n tgt lv (st)) (kf : B = some r → V C w k n (pc + 3) lv (st)) : V C w k n pc lv (va_rf rx :: st) := by
  obtain ⟨p, l, e, R, s, m, args, below, meth, c, Q, nL, G, w0⟩ := C
  intro H locs ls ho hl
  cases rx with
  | none => exact lv_ifnullN hC.1 hC.2.1 hd ht (kt (by rw [if_pos rfl] at hf; exact hf) H locs ls ho hl)
  | some x => exact lv_ifnull hC.1 hC.2.1 hd (kf (by rw [if_neg (by simp)] at hf; exact hf) H locs ls ho hl)
theorem v_ifnonnull {C : xC} {cc : ByteArray} {nL : Nat} {own : String} {Ts : List Cond} {w : cW} {k n pc : Nat} {lv : List (Nat × Value)} {st : List Value} {rx : Option Nat} {off : Int} {tgt : Nat} {β : Type} {A B : Option β} {r : β} (hC : okC C cc nL own Ts) (hd : decode cc pc = .ok (.ifnonnull off, 3)) (ht : (pc : Int) + off = (tgt : Int)) (hf : (if rx = none then A else B) = some r) (kt : B = some r → V C w k n tgt lv (st)) (kf : A = some r → V C w k n (pc + 3) lv (st)) : V C w k n pc lv (va_rf rx :: st) := by
  obtain ⟨p, l, e, R, s, m, args, below, meth, c, Q, nL, G, w0⟩ := C
  intro H locs ls ho hl
  cases rx with
  | none => exact lv_ifnonnullN hC.1 hC.2.1 hd (kf (by rw [if_pos rfl] at hf; exact hf) H locs ls ho hl)
  | some x => exact lv_ifnonnull hC.1 hC.2.1 hd ht (kt (by rw [if_neg (by simp)] at hf; exact hf) H locs ls ho hl)
theorem v_goto {C : xC} {cc : ByteArray} {nL : Nat} {own : String} {Ts : List Cond} {w : cW} {k n pc : Nat} {lv : List (Nat × Value)} {st : List Value} {off : Int} {tgt : Nat} (hC : okC C cc nL own Ts) (hd : decode cc pc = .ok (.goto off, 3)) (ht : (pc : Int) + off = (tgt : Int)) (kk : V C w k n tgt lv (st)) : V C w k n pc lv (st) := by
  obtain ⟨p, l, e, R, s, m, args, below, meth, c, Q, nL, G, w0⟩ := C
  intro H locs ls ho hl
  exact lv_goto hC.1 hC.2.1 hd ht (kk H locs ls ho hl)
theorem v_tabIn {C : xC} {cc : ByteArray} {nL : Nat} {own : String} {Ts : List Cond} {w : cW} {k n pc : Nat} {lv : List (Nat × Value)} {st : List Value} {x : Int32} {dflt lo hi off : Int} {offs : Array Int} {len tgt : Nat} (hC : okC C cc nL own Ts) (hd : decode cc pc = .ok (.tableswitch dflt lo hi offs, len)) (h1 : ¬ x.toInt < lo) (h2 : ¬ hi < x.toInt) (hof : offs[(x.toInt - lo).toNat]? = some off) (ht : (pc : Int) + off = (tgt : Int)) (kk : V C w k n tgt lv (st)) : V C w k n pc lv (.int x :: st) := by
  obtain ⟨p, l, e, R, s, m, args, below, meth, c, Q, nL, G, w0⟩ := C
  intro H locs ls ho hl
  exact lv_tableIn hC.1 hC.2.1 hd h1 h2 hof ht (kk H locs ls ho hl)
theorem v_tabOut {C : xC} {cc : ByteArray} {nL : Nat} {own : String} {Ts : List Cond} {w : cW} {k n pc : Nat} {lv : List (Nat × Value)} {st : List Value} {x : Int32} {dflt lo hi : Int} {offs : Array Int} {len tgt : Nat} (hC : okC C cc nL own Ts) (hd : decode cc pc = .ok (.tableswitch dflt lo hi offs, len)) (h1 : x.toInt < lo ∨ hi < x.toInt) (ht : (pc : Int) + dflt = (tgt : Int)) (kk : V C w k n tgt lv (st)) : V C w k n pc lv (.int x :: st) := by
  obtain ⟨p, l, e, R, s, m, args, below, meth, c, Q, nL, G, w0⟩ := C
  intro H locs ls ho hl
  exact lv_tableOut hC.1 hC.2.1 hd h1 ht (kk H locs ls ho hl)
end
section
/-! THE LAYER V, its rows on the heap: what is read and written, as functions of the pure world -/
def asI (v : Value) : Option Int32 := match v with
  | .int x => some x
  | _ => none
def asQ (v : Value) : Option (Option Nat) := match v with
  | .null => some none
  | .ref a => some (some a)
  | _ => none
theorem asI_of {v : Value} {x : Int32} (h : asI v = some x) : v = .int x := by
  cases v <;> simp_all [asI]
theorem asQ_of {v : Value} {r : Option Nat} (h : asQ v = some r) : v = va_rf r := by
  cases v <;> simp_all [asQ] <;> subst h <;> rfl
def cObj (w : cW) (r : Option Nat) (ci : Nat) : Option (List Value) := r.bind fun a => (w.1 a).bind fun e => match e with
  | .inr o => if o.1 = ci then some o.2 else none
  | .inl _ => none
theorem cObj_of {w : cW} {r : Option Nat} {ci : Nat} {fs : List Value} (h : cObj w r ci = some fs) : ∃ a, r = some a ∧ w.1 a = some (.inr (ci, fs)) := by
  obtain ⟨a, rfl, h1⟩ := ob h
  obtain ⟨e, he, h⟩ := ob h1
  refine ⟨a, rfl, ?_⟩
  rw [he]
  rcases e with e | ⟨c, fs'⟩
  · cases h
  · dsimp only at h
    by_cases hc : c = ci
    · rw [if_pos hc] at h
      cases h
      rw [hc]
    · rw [if_neg hc] at h
      cases h
theorem cObj_in {w : cW} {a ci : Nat} {fs : List Value} (h : w.1 a = some (.inr (ci, fs))) : cObj w (some a) ci = some fs := by
  simp [cObj, h]
def gI (w : cW) (r : Option Nat) (ci k : Nat) : Option Int32 := (cObj w r ci).bind fun fs => (fs[k]?).bind asI
def gQ (w : cW) (r : Option Nat) (ci k : Nat) : Option (Option Nat) := (cObj w r ci).bind fun fs => (fs[k]?).bind asQ
def pF (w : cW) (r : Option Nat) (ci k : Nat) (v : Value) : Option cW := r.bind fun a => (cObj w (some a) ci).bind fun fs => if k < fs.length then some (va_up w.1 a (some (.inr (ci, fs.set k v))), w.2) else none
def pI (w : cW) (r : Option Nat) (ci k : Nat) (x : Int32) : Option cW := pF w r ci k (.int x)
def pZ (w : cW) (r : Option Nat) (ci k : Nat) (x : Int32) : Option cW := if x = 0 ∨ x = 1 then pF w r ci k (.int x) else none
def pQ (w : cW) (r : Option Nat) (ci k : Nat) (x : Option Nat) : Option cW := pF w r ci k (va_rf x)
theorem pF_of {w w' : cW} {r : Option Nat} {ci k : Nat} {v : Value} (h : pF w r ci k v = some w') : ∃ a fs, r = some a ∧ w.1 a = some (.inr (ci, fs)) ∧ k < fs.length ∧ w' = (va_up w.1 a (some (.inr (ci, fs.set k v))), w.2) := by
  obtain ⟨a, rfl, h1⟩ := ob h
  obtain ⟨fs, he, h⟩ := ob h1
  obtain ⟨a', ha', hw⟩ := cObj_of he
  cases ha'
  by_cases hk : k < fs.length
  · rw [if_pos hk] at h
    cases h
    exact ⟨a, fs, rfl, hw, hk, rfl⟩
  · rw [if_neg hk] at h
    cases h
/-- the array at r: its address, kind, length and contents -/
def cArr (w : cW) (r : Option Nat) : Option (Nat × Nat × vp_A) := r.bind fun a => (w.1 a).bind fun e => match e with
  | .inl x => some (a, x)
  | .inr _ => none
theorem cArr_of {w : cW} {r : Option Nat} {a t : Nat} {x : vp_A} (h : cArr w r = some (a, t, x)) : r = some a ∧ w.1 a = some (.inl (t, x)) := by
  obtain ⟨a', rfl, h1⟩ := ob h
  obtain ⟨e, he, h⟩ := ob h1
  rcases e with e | e
  · cases h
    exact ⟨rfl, he⟩
  · cases h
def ldI (w : cW) (r : Option Nat) (ty : FieldType) (i : Int32) : Option Int32 := (cArr w r).bind fun q => match q.2.2.2 with
  | .inl f => if q.2.1 < aN ∧ aTy q.2.1 = ty ∧ ¬ (i < 0 ∨ q.2.2.1 ≤ i.toNatClampNeg) then some (f i.toNatClampNeg) else none
  | _ => none
def stI (w : cW) (r : Option Nat) (ty : FieldType) (i x : Int32) : Option cW := (cArr w r).bind fun q => match q.2.2.2 with
  | .inl f => if q.2.1 < aRO ∧ q.2.1 < aN ∧ aTy q.2.1 = ty ∧ ¬ (i < 0 ∨ q.2.2.1 ≤ i.toNatClampNeg) then some (va_up w.1 q.1 (some (.inl (q.2.1, q.2.2.1, .inl (upd f i.toNatClampNeg (vp_nar ty x))))), w.2) else none
  | _ => none
def ldQ (w : cW) (r : Option Nat) (i : Int32) : Option (Option Nat) := (cArr w r).bind fun q => match q.2.2.2 with
  | .inr (.inr (.inr (.inr f))) => if q.2.1 < aN ∧ aRf q.2.1 = true ∧ ¬ (i < 0 ∨ q.2.2.1 ≤ i.toNatClampNeg) then some (f i.toNatClampNeg) else none
  | _ => none
def aLen (w : cW) (r : Option Nat) : Option Int32 := (cArr w r).bind fun q => if q.2.1 < aN then some (Int32.ofNat q.2.2.1) else none
/-- may what r names lie in an array of kind t? null, or an object of a class that aOk lets in -/
def qOk (w : cW) (t : Nat) (r : Option Nat) : Bool := match r with
  | none => true
  | some b => match w.1 b with
    | some (.inr o) => aOk t o.1
    | _ => false
def stQ (w : cW) (r : Option Nat) (i : Int32) (x : Option Nat) : Option cW := (cArr w r).bind fun q => match q.2.2.2 with
  | .inr (.inr (.inr (.inr f))) => if q.2.1 < aRO ∧ q.2.1 < aN ∧ aRf q.2.1 = true ∧ qOk w q.2.1 x = true ∧ ¬ (i < 0 ∨ q.2.2.1 ≤ i.toNatClampNeg) then some (va_up w.1 q.1 (some (.inl (q.2.1, q.2.2.1, .inr (.inr (.inr (.inr (va_up f i.toNatClampNeg x)))))) ), w.2) else none
  | _ => none
/-- a new cell: its address is the heap's size -/
def alC (w : cW) (e : cE) : cW := (va_up w.1 w.2.1 (some e), w.2.1 + 1, w.2.2)
def alI (w : cW) (t : Nat) (i : Int32) (b : Nat) : Option cW := if ¬ i < 0 ∧ i.toNatClampNeg ≤ b then some (alC w (.inl (t, i.toNatClampNeg, .inl (fun _ => 0)))) else none
def alQ (w : cW) (t : Nat) (i : Int32) (b : Nat) : Option cW := if ¬ i < 0 ∧ i.toNatClampNeg ≤ b then some (alC w (.inl (t, i.toNatClampNeg, .inr (.inr (.inr (.inr (fun _ => none))))))) else none
/-- what the tables say of which objects may lie in which arrays -/
def cAs (s : State) : Prop := ∀ (t ci : Nat) (q : vw_C) (E : String), aOk t ci = true → aTy t = .object E → vwCl[ci]? = some q → ∀ comp c0 : ClassId, s.vm.findClass E = some comp → s.vm.findClass q.1 = some c0 → s.vm.assignable c0 comp = true
theorem va_P1 {D : va_G} {cl : List vw_C} {q : Nat × va_E} {H : Heap} (h : va_at D cl q H) : va_P D cl [q] H := fun k x hk => by
  cases k with
  | zero => cases hk; exact h
  | succ k => simp at hk
/-- an array as it lies in the heap, whether it may be written or not -/
theorem cView {G : cG} {s : State} {H : Heap} {a t : Nat} {x : vp_A} (hK : cK G s) (ht : t < aN) (h : cAt G s H a (.inl (t, x))) : ∃ cell : Cell, H[a]? = some cell ∧ s.isArrayOf cell (aTy t) ∧ cell.vm ≠ .unknown ∧ x.1 ≤ cell.slots.size ∧ cell.slots.size.toInt32 = Int32.ofNat x.1 ∧ ∀ j : Nat, j < x.1 → cell.slots[j]? = some (vpV x j) := by
  unfold cAt at h
  dsimp only at h
  by_cases hx : t < aRO
  · rw [if_pos hx] at h
    rw [vp_cell_V] at h
    exact ⟨_, h, (hK.2.1 t ht).1 x.1 (vpV x), (fun q => by cases q), (by rw [arrV_size]; exact Nat.le_refl _), (by rw [arrV_size]), fun j hj => arrV_read _ _ hj⟩
  · rw [if_neg hx] at h
    obtain ⟨cell, h1, h2, h3, h4, h5, h6, -⟩ := h
    exact ⟨cell, h1, h2, h3, h4, h5, h6⟩
theorem okC.K {C : xC} {cc : ByteArray} {nL : Nat} {own : String} {Ts : List Cond} (hC : okC C cc nL own Ts) : cK C.2.2.2.2.2.2.2.2.2.2.2.2.1 C.2.2.2.2.1 := by
  obtain ⟨p, l, e, R, s, m, args, below, meth, c, Q, nL, G, w0⟩ := C
  exact hC.2.2.2.2.2.2.1.1
section VHEAP
variable {C : xC} {cc : ByteArray} {nL : Nat} {own : String} {Ts : List Cond} {w : cW} {k n pc : Nat} {lv : List (Nat × Value)} {st : List Value} {β : Type} {z : β}
theorem v_getF {ref CN : String} {T : u_T} {N ci index : Nat} {r : Option Nat} {fs : List Value} {v : Value} (hC : okC C cc nL own Ts) (hd : decode cc pc = .ok (.getfield index, 3)) (hin : ∀ x ∈ u_ws CN T N, x ∈ Ts) (hc : vwCl[ci]? = some (CN, T, N)) (j : Nat) (hj : j < N) (hlink : Cond.fieldLink own index ref (T j).2.1 (T j).2.2.1 ∈ Ts) (hsm : ref = (T j).1 ∨ Cond.sameField ref (T j).1 (T j).2.1 (T j).2.2.1 ∈ Ts) (ho : cObj w r ci = some fs) (hv : fs[j]? = some v) (kk : V C w k n (pc + 3) lv (v :: st)) : V C w k n pc lv (va_rf r :: st) := by
  obtain ⟨p, l, e, R, s, m, args, below, meth, c, Q, nL, G, w0⟩ := C
  obtain ⟨a, rfl, ha⟩ := cObj_of ho
  intro H locs ls hok hl
  have hts := hC.2.2.2.2.2.1
  refine va_get (own := own) (ref := ref) (D := G.2.1) (cl := vwCl) (ci := ci) (C := CN) (T := T) (N := N) (fs := fs) (v := v) hC.1 hC.2.1 hts hin hC.2.2.2.2.1 hC.2.2.2.2.2.2.1.1.1 (va_P1 (q := (a, .inr (ci, fs))) (hok.2.1 a _ ha)) 0 rfl hc j hj (hts _ hlink) ?_ hv hd (kk H locs ls hok hl)
  rcases hsm with h | h
  · rw [h]
    exact fun _ q => q
  · exact u_same (hts _ h)
theorem v_getI {ref CN : String} {T : u_T} {N ci index : Nat} {r : Option Nat} {F : Int32 → Option β} (hC : okC C cc nL own Ts) (hd : decode cc pc = .ok (.getfield index, 3)) (hin : ∀ x ∈ u_ws CN T N, x ∈ Ts) (hc : vwCl[ci]? = some (CN, T, N)) (j : Nat) (hj : j < N) (hlink : Cond.fieldLink own index ref (T j).2.1 (T j).2.2.1 ∈ Ts) (hsm : ref = (T j).1 ∨ Cond.sameField ref (T j).1 (T j).2.1 (T j).2.2.1 ∈ Ts) (hf : (gI w r ci j).bind F = some z) (kk : ∀ x : Int32, F x = some z → V C w k n (pc + 3) lv (.int x :: st)) : V C w k n pc lv (va_rf r :: st) := by
  obtain ⟨x, hx, hf⟩ := ob hf
  obtain ⟨fs, ho, hx⟩ := ob hx
  obtain ⟨v, hv, hx⟩ := ob hx
  have e := asI_of hx
  subst e
  exact v_getF hC hd hin hc j hj hlink hsm ho hv (kk x hf)
theorem v_getQ {ref CN : String} {T : u_T} {N ci index : Nat} {r : Option Nat} {F : Option Nat → Option β} (hC : okC C cc nL own Ts) (hd : decode cc pc = .ok (.getfield index, 3)) (hin : ∀ x ∈ u_ws CN T N, x ∈ Ts) (hc : vwCl[ci]? = some (CN, T, N)) (j : Nat) (hj : j < N) (hlink : Cond.fieldLink own index ref (T j).2.1 (T j).2.2.1 ∈ Ts) (hsm : ref = (T j).1 ∨ Cond.sameField ref (T j).1 (T j).2.1 (T j).2.2.1 ∈ Ts) (hf : (gQ w r ci j).bind F = some z) (kk : ∀ x : Option Nat, F x = some z → V C w k n (pc + 3) lv (va_rf x :: st)) : V C w k n pc lv (va_rf r :: st) := by
  obtain ⟨x, hx, hf⟩ := ob hf
  obtain ⟨fs, ho, hx⟩ := ob hx
  obtain ⟨v, hv, hx⟩ := ob hx
  have e := asQ_of hx
  subst e
  exact v_getF hC hd hin hc j hj hlink hsm ho hv (kk x hf)
theorem v_putF {ref CN : String} {T : u_T} {N ci index : Nat} {r : Option Nat} {w' : cW} {v : Value} {ty : FieldType} (hC : okC C cc nL own Ts) (hd : decode cc pc = .ok (.putfield index, 3)) (hin : ∀ x ∈ u_ws CN T N, x ∈ Ts) (hc : vwCl[ci]? = some (CN, T, N)) (ty0 : Nat → FieldType) (hty : ∀ k, k < N → parseFieldDescriptor (T k).2.2.1 = some (ty0 k)) (hnm : ∀ a, a < N → ∀ b, b < N → a ≠ b → (T a).2.1 ≠ (T b).2.1) (j : Nat) (hj : j < N) (hlink : Cond.fieldLink own index ref (T j).2.1 (T j).2.2.1 ∈ Ts) (hsm : ref = (T j).1 ∨ Cond.sameField ref (T j).1 (T j).2.1 (T j).2.2.1 ∈ Ts) (hfin : (T j).2.2.2 = false) (hdt : parseFieldDescriptor (T j).2.2.1 = some ty) (hn : narrow ty v = v) (hfit : fits ty v = true) (hp : pF w r ci j v = some w') (kk : V C w' k n (pc + 3) lv st) : V C w k n pc lv (v :: va_rf r :: st) := by
  obtain ⟨p, l, e, R, s, m, args, below, meth, c, Q, nL, G, w0⟩ := C
  obtain ⟨a, fs, rfl, ha, hl0, rfl⟩ := pF_of hp
  intro H locs ls hok hl
  have hts := hC.2.2.2.2.2.1
  have hK := hC.2.2.2.2.2.2.1.1.1
  have hap := va_apart (own := own) hts hin ty0 hty hnm hK hc
  obtain ⟨q0, h1, cell, q1, q2, q3, q4⟩ := hok.2.1 a _ ha
  have hr : q0 = (CN, T, N) := Option.some.inj (h1.symm.trans hc)
  subst hr
  obtain ⟨hS, hfc, kC, hkC, hkind⟩ := hK.1 ci _ hc
  obtain ⟨cf, kf, fi, f, hi, hsl⟩ := hS j hj
  have hlay := hts _ (hin _ (u_in_lay hj))
  unfold u_lay at hlay
  rw [if_neg (by rw [hfin]; decide)] at hlay
  have hst := (u_facts hfc hkC (u_lays hts hin hj) hi).1
  have h6 := u_store hfc hkC hkind hlay hi hdt hn hfit
  have hsame : ∀ x, s.fieldFound? (T j).1 (T j).2.1 (T j).2.2.1 = some x → s.fieldFound? ref (T j).2.1 (T j).2.2.1 = some x := by
    rcases hsm with h | h
    · rw [h]
      exact fun _ q => q
    · exact u_same (hts _ h)
  refine W.putK hC.1 hC.2.1 (f := f) ⟨hC.2.2.2.2.1, hts _ hlink, ⟨_, _, _, hsame _ hi⟩, hst⟩ (by rw [q2]; exact h6) q1 q3 (by rw [hsl]; exact k2_hasslot (q4 j hj)) rfl rfl hd fun H' e1 e2 e3 => ?_
  rw [hsl] at e1 ⊢
  exact kk H' _ ls (okc.put hok ha rfl ⟨_, hc, t_OB.to (V := updV (vp_V fs) j v) ⟨_, e1, q2, q3, t_set q4 hap hj v⟩ (fun i _ => vp_updV_set hl0 v i)⟩ e2 e3) hl
/-- a final field, in its constructor -/
theorem v_putC {CN : String} {T : u_T} {N ci index : Nat} {r : Option Nat} {w' : cW} {v : Value} {ty : FieldType} (hC : okC C cc nL own Ts) (hd : decode cc pc = .ok (.putfield index, 3)) (hin : ∀ x ∈ u_ws CN T N, x ∈ Ts) (hc : vwCl[ci]? = some (CN, T, N)) (ty0 : Nat → FieldType) (hty : ∀ k, k < N → parseFieldDescriptor (T k).2.2.1 = some (ty0 k)) (hnm : ∀ a, a < N → ∀ b, b < N → a ≠ b → (T a).2.1 ≠ (T b).2.1) (j : Nat) (hj : j < N) (hlink : Cond.fieldLink own index (T j).1 (T j).2.1 (T j).2.2.1 ∈ Ts) (hfin : (T j).2.2.2 = true) (hname : C.2.2.2.2.2.2.2.2.1.name = "<init>") (hdecl : (T j).1 = own) (hdt : parseFieldDescriptor (T j).2.2.1 = some ty) (hn : narrow ty v = v) (hfit : fits ty v = true) (hp : pF w r ci j v = some w') (kk : V C w' k n (pc + 3) lv st) : V C w k n pc lv (v :: va_rf r :: st) := by
  obtain ⟨p, l, e, R, s, m, args, below, meth, c, Q, nL, G, w0⟩ := C
  obtain ⟨a, fs, rfl, ha, hl0, rfl⟩ := pF_of hp
  intro H locs ls hok hl
  have hts := hC.2.2.2.2.2.1
  have hK := hC.2.2.2.2.2.2.1.1.1
  have hown := hC.2.2.2.2.1
  have hap := va_apart (own := own) hts hin ty0 hty hnm hK hc
  obtain ⟨q0, h1, cell, q1, q2, q3, q4⟩ := hok.2.1 a _ ha
  have hr : q0 = (CN, T, N) := Option.some.inj (h1.symm.trans hc)
  subst hr
  obtain ⟨hS, hfc, kC, hkC, hkind⟩ := hK.1 ci _ hc
  obtain ⟨cf, kf, fi, f, hi, hsl⟩ := hS j hj
  have hlay := hts _ (hin _ (u_in_lay hj))
  unfold u_lay at hlay
  rw [if_pos hfin] at hlay
  have hst := (u_facts hfc hkC (u_lays hts hin hj) hi).1
  have hcf : m.cls = cf := by
    obtain ⟨_, _, c', _, _, _, -, -, hf', -, -, -, hown2, -⟩ := Cond.laysFinal_spec hlay
    have e1 : c' = cf := by have := hi.symm.trans hf'; simp at this; exact this.1.symm
    rw [hdecl] at hown2
    rw [← e1]; exact Option.some.inj (hown.symm.trans hown2)
  have h6 := u_fits hfc hkC hkind (Or.inr hlay) hi hdt hn hfit
  refine W.putFinK hC.1 hC.2.1 hown (hts _ hlink) hi hst hcf hname (by rw [q2]; exact h6) q1 q3 (by rw [hsl]; exact k2_hasslot (q4 j hj)) rfl rfl hd fun H' e1 e2 e3 => ?_
  rw [hsl] at e1 ⊢
  exact kk H' _ ls (okc.put hok ha rfl ⟨_, hc, t_OB.to (V := updV (vp_V fs) j v) ⟨_, e1, q2, q3, t_set q4 hap hj v⟩ (fun i _ => vp_updV_set hl0 v i)⟩ e2 e3) hl
/-- arraylength -/
theorem v_alen {r : Option Nat} {F : Int32 → Option β} (hC : okC C cc nL own Ts) (hd : decode cc pc = .ok (.arraylength, 1)) (hf : (aLen w r).bind F = some z) (kk : ∀ x : Int32, F x = some z → V C w k n (pc + 1) lv (.int x :: st)) : V C w k n pc lv (va_rf r :: st) := by
  have hK := hC.K
  obtain ⟨p, l, e, R, s, m, args, below, meth, c, Q, nL, G, w0⟩ := C
  obtain ⟨x, hx0, hf1⟩ := ob hf
  obtain ⟨⟨a, t, y⟩, ho, hx⟩ := ob hx0
  obtain ⟨rfl, ha⟩ := cArr_of ho
  try dsimp only at hx
  by_cases ht : t < aN
  · rw [if_pos ht] at hx
    cases hx
    intro H locs ls hok hl
    obtain ⟨cell, g1, g2, g3, g4, g5, g6⟩ := cView hK ht (hok.2.1 a _ ha)
    exact W.alen hC.1 hC.2.1 g1 g2 g5 rfl rfl hd (kk _ hf1 H locs ls hok hl)
  · rw [if_neg ht] at hx
    cases hx
theorem v_iald {r : Option Nat} {i : Int32} {F : Int32 → Option β} (hC : okC C cc nL own Ts) (hd : decode cc pc = .ok (.iaload, 1)) (hf : (ldI w r .int i).bind F = some z) (kk : ∀ x : Int32, F x = some z → V C w k n (pc + 1) lv (.int x :: st)) : V C w k n pc lv (.int i :: va_rf r :: st) := by
  have hK := hC.K
  obtain ⟨p, l, e, R, s, m, args, below, meth, c, Q, nL, G, w0⟩ := C
  obtain ⟨x, hx, hf⟩ := ob hf
  obtain ⟨⟨a, t, N, y⟩, ho, hx⟩ := ob hx
  obtain ⟨rfl, ha⟩ := cArr_of ho
  rcases y with f | y
  · dsimp only at hx
    by_cases ht : t < aN ∧ aTy t = .int ∧ ¬ (i < 0 ∨ N ≤ i.toNatClampNeg)
    · rw [if_pos ht] at hx
      cases hx
      intro H locs ls hok hl
      obtain ⟨cell, g1, g2, g3, g4, g5, g6⟩ := cView hK ht.1 (hok.2.1 a _ ha)
      rw [ht.2.1] at g2
      have hlt : i.toNatClampNeg < N := Nat.not_le.mp fun q => ht.2.2 (Or.inr q)
      dsimp only at g4 g6
      exact W.iald hC.1 hC.2.1 g1 g2 g3 (fun q => by rcases q with q | q; exact ht.2.2 (Or.inl q); omega) (g6 _ hlt) rfl rfl hd (kk _ hf H locs ls hok hl)
    · rw [if_neg ht] at hx
      cases hx
  · cases hx
theorem v_zald {r : Option Nat} {i : Int32} {F : Int32 → Option β} (hC : okC C cc nL own Ts) (hd : decode cc pc = .ok (.baload, 1)) (hf : (ldI w r .boolean i).bind F = some z) (kk : ∀ x : Int32, F x = some z → V C w k n (pc + 1) lv (.int x :: st)) : V C w k n pc lv (.int i :: va_rf r :: st) := by
  have hK := hC.K
  obtain ⟨p, l, e, R, s, m, args, below, meth, c, Q, nL, G, w0⟩ := C
  obtain ⟨x, hx, hf⟩ := ob hf
  obtain ⟨⟨a, t, N, y⟩, ho, hx⟩ := ob hx
  obtain ⟨rfl, ha⟩ := cArr_of ho
  rcases y with f | y
  · dsimp only at hx
    by_cases ht : t < aN ∧ aTy t = .boolean ∧ ¬ (i < 0 ∨ N ≤ i.toNatClampNeg)
    · rw [if_pos ht] at hx
      cases hx
      intro H locs ls hok hl
      obtain ⟨cell, g1, g2, g3, g4, g5, g6⟩ := cView hK ht.1 (hok.2.1 a _ ha)
      rw [ht.2.1] at g2
      have hlt : i.toNatClampNeg < N := Nat.not_le.mp fun q => ht.2.2 (Or.inr q)
      dsimp only at g4 g6
      exact W.zald hC.1 hC.2.1 g1 g2 g3 (fun q => by rcases q with q | q; exact ht.2.2 (Or.inl q); omega) (g6 _ hlt) rfl rfl hd (kk _ hf H locs ls hok hl)
    · rw [if_neg ht] at hx
      cases hx
  · cases hx
theorem v_aald {r : Option Nat} {i : Int32} {F : Option Nat → Option β} (hC : okC C cc nL own Ts) (hd : decode cc pc = .ok (.aaload, 1)) (hf : (ldQ w r i).bind F = some z) (kk : ∀ x : Option Nat, F x = some z → V C w k n (pc + 1) lv (va_rf x :: st)) : V C w k n pc lv (.int i :: va_rf r :: st) := by
  have hK := hC.K
  obtain ⟨p, l, e, R, s, m, args, below, meth, c, Q, nL, G, w0⟩ := C
  obtain ⟨x, hx, hf⟩ := ob hf
  obtain ⟨⟨a, t, N, y⟩, ho, hx⟩ := ob hx
  obtain ⟨rfl, ha⟩ := cArr_of ho
  rcases y with f | f | f | f | f
  · cases hx
  · cases hx
  · cases hx
  · cases hx
  · dsimp only at hx
    by_cases ht : t < aN ∧ aRf t = true ∧ ¬ (i < 0 ∨ N ≤ i.toNatClampNeg)
    · rw [if_pos ht] at hx
      cases hx
      intro H locs ls hok hl
      obtain ⟨cell, g1, g2, g3, g4, g5, g6⟩ := cView hK ht.1 (hok.2.1 a _ ha)
      have hlt : i.toNatClampNeg < N := Nat.not_le.mp fun q => ht.2.2 (Or.inr q)
      dsimp only at g4 g6
      exact W.aald (ty := aTy t) hC.1 hC.2.1 g1 g2 (aRf_ok t ht.2.1) g3 (fun q => by rcases q with q | q; exact ht.2.2 (Or.inl q); omega) (g6 _ hlt) rfl rfl hd (kk _ hf H locs ls hok hl)
    · rw [if_neg ht] at hx
      cases hx
theorem stI_of {w w' : cW} {r : Option Nat} {ty : FieldType} {i x : Int32} (h : stI w r ty i x = some w') : ∃ a t N f, r = some a ∧ w.1 a = some (.inl (t, N, .inl f)) ∧ t < aRO ∧ t < aN ∧ aTy t = ty ∧ ¬ (i < 0 ∨ N ≤ i.toNatClampNeg) ∧ w' = (va_up w.1 a (some (.inl (t, N, .inl (upd f i.toNatClampNeg (vp_nar ty x))))), w.2) := by
  obtain ⟨⟨a, t, N, y⟩, ho, hx⟩ := ob h
  obtain ⟨rfl, ha⟩ := cArr_of ho
  rcases y with f | y
  · dsimp only at hx
    by_cases ht : t < aRO ∧ t < aN ∧ aTy t = ty ∧ ¬ (i < 0 ∨ N ≤ i.toNatClampNeg)
    · rw [if_pos ht] at hx
      cases hx
      exact ⟨a, t, N, f, rfl, ha, ht.1, ht.2.1, ht.2.2.1, ht.2.2.2, rfl⟩
    · rw [if_neg ht] at hx
      cases hx
  · cases hx
theorem cAt_arr {G : cG} {s : State} {H : Heap} {a t : Nat} {x : vp_A} (ht : t < aRO) (h : cAt G s H a (.inl (t, x))) : H[a]? = some (vp_cell (G.2.2 t) x) := by
  unfold cAt at h
  dsimp only at h
  rw [if_pos ht] at h
  exact h
theorem cAt_arr' {G : cG} {s : State} {H : Heap} {a t : Nat} {x : vp_A} (ht : t < aRO) (h : H[a]? = some (vp_cell (G.2.2 t) x)) : cAt G s H a (.inl (t, x)) := by
  unfold cAt
  dsimp only
  rw [if_pos ht]
  exact h
theorem vp_nar_intV (x : Int32) : vp_nar .int x = x := rfl
theorem v_iast {r : Option Nat} {i x : Int32} {F : cW → Option β} (hC : okC C cc nL own Ts) (hd : decode cc pc = .ok (.iastore, 1)) (hf : (stI w r .int i x).bind F = some z) (kk : ∀ w' : cW, F w' = some z → V C w' k n (pc + 1) lv st) : V C w k n pc lv (.int x :: .int i :: va_rf r :: st) := by
  have hK := hC.K
  obtain ⟨p, l, e, R, s, m, args, below, meth, c, Q, nL, G, w0⟩ := C
  obtain ⟨w', hx, hf⟩ := ob hf
  obtain ⟨a, t, N, f, rfl, ha, h1, h2, h3, h4, rfl⟩ := stI_of hx
  intro H locs ls hok hl
  have hc := cAt_arr h1 (hok.2.1 a _ ha)
  have hA := (hK.2.1 t h2).1 N (fun j => .int (f j))
  rw [h3] at hA
  refine W.iast hC.1 hC.2.1 hc hA (fun q => by cases q) (by show ¬ (i < 0 ∨ (arrV _ _ _).slots.size ≤ _); rw [arrV_size]; exact h4) rfl rfl hd fun H1 e z oq => ?_
  refine kk _ hf H1 _ ls (okc.put hok ha (by simp [wrE, h1]) (cAt_arr' h1 ?_) z oq) hl
  rw [e, vp_cell_i, vp_cell_i, arrV_store]
  congr 2
  funext q
  by_cases hq : q = i.toNatClampNeg
  · subst hq
    simp [updV, upd, vp_nar_intV]
  · simp [updV, upd, hq]
theorem v_zast {r : Option Nat} {i x : Int32} {F : cW → Option β} (hC : okC C cc nL own Ts) (hd : decode cc pc = .ok (.bastore, 1)) (hf : (stI w r .boolean i x).bind F = some z) (kk : ∀ w' : cW, F w' = some z → V C w' k n (pc + 1) lv st) : V C w k n pc lv (.int x :: .int i :: va_rf r :: st) := by
  have hK := hC.K
  obtain ⟨p, l, e, R, s, m, args, below, meth, c, Q, nL, G, w0⟩ := C
  obtain ⟨w', hx, hf⟩ := ob hf
  obtain ⟨a, t, N, f, rfl, ha, h1, h2, h3, h4, rfl⟩ := stI_of hx
  intro H locs ls hok hl
  have hc := cAt_arr h1 (hok.2.1 a _ ha)
  have hA := (hK.2.1 t h2).1 N (fun j => .int (f j))
  rw [h3] at hA
  refine W.zast hC.1 hC.2.1 hc hA (fun q => by cases q) (by show ¬ (i < 0 ∨ (arrV _ _ _).slots.size ≤ _); rw [arrV_size]; exact h4) rfl rfl hd fun H1 e z oq => ?_
  refine kk _ hf H1 _ ls (okc.put hok ha (by simp [wrE, h1]) (cAt_arr' h1 ?_) z oq) hl
  rw [e, vp_cell_i, vp_cell_i, arrV_store]
  congr 2
  funext q
  by_cases hq : q = i.toNatClampNeg
  · subst hq
    simp [updV, upd, vp_nar]
    try rfl
  · simp [updV, upd, hq]
theorem stQ_of {w w' : cW} {r x : Option Nat} {i : Int32} (h : stQ w r i x = some w') : ∃ a t N f, r = some a ∧ w.1 a = some (.inl (t, N, .inr (.inr (.inr (.inr f))))) ∧ t < aRO ∧ t < aN ∧ aRf t = true ∧ qOk w t x = true ∧ ¬ (i < 0 ∨ N ≤ i.toNatClampNeg) ∧ w' = (va_up w.1 a (some (.inl (t, N, .inr (.inr (.inr (.inr (va_up f i.toNatClampNeg x))))))), w.2) := by
  obtain ⟨⟨a, t, N, y⟩, ho, hx⟩ := ob h
  obtain ⟨rfl, ha⟩ := cArr_of ho
  rcases y with f | f | f | f | f
  · cases hx
  · cases hx
  · cases hx
  · cases hx
  · dsimp only at hx
    by_cases ht : t < aRO ∧ t < aN ∧ aRf t = true ∧ qOk w t x = true ∧ ¬ (i < 0 ∨ N ≤ i.toNatClampNeg)
    · rw [if_pos ht] at hx
      cases hx
      exact ⟨a, t, N, f, rfl, ha, ht.1, ht.2.1, ht.2.2.1, ht.2.2.2.1, ht.2.2.2.2, rfl⟩
    · rw [if_neg ht] at hx
      cases hx
theorem v_aast {r x : Option Nat} {i : Int32} {F : cW → Option β} (hC : okC C cc nL own Ts) (hAs : cAs C.2.2.2.2.1) (hd : decode cc pc = .ok (.aastore, 1)) (hf : (stQ w r i x).bind F = some z) (kk : ∀ w' : cW, F w' = some z → V C w' k n (pc + 1) lv st) : V C w k n pc lv (va_rf x :: .int i :: va_rf r :: st) := by
  have hK := hC.K
  obtain ⟨p, l, e, R, s, m, args, below, meth, c, Q, nL, G, w0⟩ := C
  obtain ⟨w', hx, hf⟩ := ob hf
  obtain ⟨a, t, N, f, rfl, ha, h1, h2, h3, h5, h4, rfl⟩ := stQ_of hx
  intro H locs ls hok hl
  obtain ⟨E, hE⟩ := aRf_obj t h3
  have hc := cAt_arr h1 (hok.2.1 a _ ha)
  have hlt : i.toNatClampNeg < N := Nat.not_le.mp fun q => h4 (Or.inr q)
  have h0 : ¬ i < 0 := fun q => h4 (Or.inl q)
  have fin : ∀ (v : Value) (H1 : Heap), v = va_rf x → H1[a]? = some ((vp_cell (G.2.2 t) (N, .inr (.inr (.inr (.inr f))))).setSlot i.toNatClampNeg v) → H1[a]? = some (vp_cell (G.2.2 t) (N, .inr (.inr (.inr (.inr (va_up f i.toNatClampNeg x)))))) := by
    intro v H1 hv e
    rw [e, vp_cell_q, vp_cell_q, arrV_store]
    congr 2
    funext q
    by_cases hq : q = i.toNatClampNeg
    · subst hq
      simp [updV, va_up, hv]
    · simp [updV, va_up, hq]
  cases x with
  | none =>
    have hA := (hK.2.1 t h2).1 N (fun j => va_rf (f j))
    rw [hE] at hA
    refine va_WaastN (C := E) hC.1 hC.2.1 hc hA (fun h => by cases h) (by show ¬ (i < 0 ∨ (arrV _ _ _).slots.size ≤ _); rw [arrV_size]; exact h4) rfl rfl hd fun H1 e z oq => ?_
    exact kk _ hf H1 _ ls (okc.put hok ha (by simp [wrE, h1]) (cAt_arr' h1 (fin _ _ rfl e)) z oq) hl
  | some v =>
    have hR := (hK.2.1 t h2).2
    rw [hE] at hR
    obtain ⟨kA, comp, k1, k2, k3, -⟩ := hR
    obtain ⟨kE, hkE, -⟩ := Vm.findClass_spec k3
    unfold qOk at h5
    dsimp only at h5
    cases hv : w.1 v with
    | none => rw [hv] at h5; cases h5
    | some y =>
      rw [hv] at h5
      rcases y with y | ⟨ci, fs⟩
      · cases h5
      · dsimp only at h5
        obtain ⟨q, hq, cell, g1, g2, g3, -⟩ := hok.2.1 v _ hv
        have hcl := (hK.1.1 ci q hq).2
        have hfc : s.vm.findClass q.1 = some cell.cls := by rw [g2]; exact hcl.1
        obtain ⟨kC, hkC, -⟩ := Vm.findClass_spec hfc
        refine W.aast hC.1 hC.2.1 hc (fun q h => by cases h) (fun h => by cases h) k1 k2 rfl hkE ⟨h0, by show _ < (arrV _ _ _).slots.size; rw [arrV_size]; exact hlt⟩ g1 (fun q h => by rw [g3] at h; cases h) hkC (hAs t ci q E h5 hE hq _ _ k3 hfc) rfl rfl hd fun H1 e z oq => ?_
        exact kk _ hf H1 _ ls (okc.put hok ha (by simp [wrE, h1]) (cAt_arr' h1 (fin _ _ rfl e)) z oq) hl
theorem okC.size {G : cG} {w0 : cW} {s : State} (h : okw G w0 s) : w0.2.1 = s.heap.size := h.2.2.1.symm
/-- newarray: an array of numbers; at most b places -/
theorem v_newa {atype : ArrayType} {i : Int32} {t b : Nat} {F : cW → Option β} (hC : okC C cc nL own Ts) (hd : decode cc pc = .ok (.newarray atype, 2)) (hw : Cond.arrayClass (newarray.typeOf atype) ∈ Ts) (hty : newarray.typeOf atype = aTy t) (ht : t < aRO ∧ t < aN) (hdef : ∀ cA N, vp_cell cA (N, .inl (fun _ => 0)) = arrV cA N (fun _ => defaultValue (aTy t))) (hb : b * componentBytes (aTy t) ≤ 536870912) (hcls : ∀ (U : State) (cA : ClassId), va_RA U cA (aTy t) → U.vm.findClass ("[" ++ (aTy t).toString) = some cA) (hk : k + 1 ≤ (xR C).cells) (hn : n + b ≤ (xR C).slots) (hf : (alI w t i b).bind F = some z) (kk : ∀ w' : cW, F w' = some z → V C w' (k + 1) (n + b) (pc + 2) lv (va_rf (some w.2.1) :: st)) : V C w k n pc lv (.int i :: st) := by
  have hK := hC.K
  obtain ⟨p, l, e, R, s, m, args, below, meth, c, Q, nL, G, w0⟩ := C
  obtain ⟨w', hx, hf⟩ := ob hf
  unfold alI at hx
  by_cases hi : ¬ i < 0 ∧ i.toNatClampNeg ≤ b
  · rw [if_pos hi] at hx
    cases hx
    intro H locs ls hok hl
    have hR := (hK.2.1 t ht.2).2
    refine va_newaK (N := i.toNatClampNeg) hC.1 hC.2.1 (hC.2.2.2.2.2.1 _ hw) rfl hd rfl hi.1 rfl (by rw [hty]; exact Nat.le_trans (Nat.mul_le_mul_right _ hi.2) hb) hk (Nat.le_trans (Nat.add_le_add_left hi.2 _) hn) hok.1 fun H1 cA e1 z1 o1 hAr hNm => ?_
    have hcA : cA = G.2.2 t := by
      rw [hty] at hNm
      have h2 : s.vm.findClass ("[" ++ (aTy t).toString) = some (G.2.2 t) := hcls _ _ hR
      exact Option.some.inj (hNm.symm.trans h2)
    subst hcA
    refine W.widen (Nat.le_refl _) (Nat.add_le_add_left hi.2 _) (kk _ hf H1 locs ls (okc.new hok (okC.size hC.2.2.2.2.2.2.1) hC.2.2.2.2.2.2.1.2.2.2.2.1 (cAt_arr' ht.1 ?_) (by rw [z1, hok.1]) (fun q hq => o1 q (by rw [← hok.1]; exact hq))) hl)
    rw [hdef, ← hty]
    exact e1
  · rw [if_neg hi] at hx
    cases hx
/-- anewarray -/
theorem v_newq {CN : String} {index t b : Nat} {i : Int32} {F : cW → Option β} (hC : okC C cc nL own Ts) (hd : decode cc pc = .ok (.anewarray index, 3)) (hcl : Cond.classLink own index CN ∈ Ts) (hov : Cond.arrayOver (.object CN) ∈ lw_ex) (hty : aTy t = .object CN) (ht : t < aRO ∧ t < aN) (hb : b * 4 ≤ 536870912) (hk : k + 1 ≤ (xR C).cells) (hn : n + b ≤ (xR C).slots) (hf : (alQ w t i b).bind F = some z) (kk : ∀ w' : cW, F w' = some z → V C w' (k + 1) (n + b) (pc + 3) lv (va_rf (some w.2.1) :: st)) : V C w k n pc lv (.int i :: st) := by
  have hK := hC.K
  obtain ⟨p, l, e, R, s, m, args, below, meth, c, Q, nL, G, w0⟩ := C
  obtain ⟨w', hx, hf⟩ := ob hf
  unfold alQ at hx
  by_cases hi : ¬ i < 0 ∧ i.toNatClampNeg ≤ b
  · rw [if_pos hi] at hx
    cases hx
    intro H locs ls hok hl
    have hts := hC.2.2.2.2.2.1
    have hR := (hK.2.1 t ht.2).2
    rw [hty] at hR
    refine W.anew hC.1 hC.2.1 hC.2.2.2.2.1 (hts _ hcl) (lw_ex_use _ hov _ _ (hK.2.2 _ hov)) rfl hd rfl hi.1 (Nat.le_trans (Nat.mul_le_mul_right _ hi.2) hb) hk (Nat.le_trans (Nat.add_le_add_left hi.2 _) hn) fun cA kA comp f1 f2 f3 f4 => ?_
    have hcA : cA = G.2.2 t := by
      obtain ⟨_, _, _, _, _, h4⟩ := hR
      exact Option.some.inj (f1.symm.trans h4)
    subst hcA
    generalize hH1 : H.push ({ cls := G.2.2 t, slots := Array.replicate i.toNatClampNeg .null, vm := .none } : Cell) = H1
    have z1 : H1.size = H.size + 1 := by rw [← hH1, Array.size_push]
    have e1 : H1[H.size]? = some (arrV (G.2.2 t) i.toNatClampNeg (fun _ => .null)) := by rw [← hH1, Array.getElem?_push_size, ← arrV_new]
    have o1 : ∀ q : Nat, q < H.size → H1[q]? = H[q]? := fun q hq => by rw [← hH1, Array.getElem?_push, if_neg (Nat.ne_of_lt hq)]
    rw [hok.1] at e1
    refine W.widen (Nat.le_refl _) (Nat.add_le_add_left hi.2 _) ?_
    have := kk _ hf H1 locs ls (okc.new hok (okC.size hC.2.2.2.2.2.2.1) hC.2.2.2.2.2.2.1.2.2.2.2.1 (cAt_arr' ht.1 e1) z1 o1) hl
    rw [← hok.1] at this
    exact this
  · rw [if_neg hi] at hx
    cases hx
/-- new -/
theorem v_new {CN : String} {T : u_T} {N ci index : Nat} {fs : List Value} {F : cW → Option β} (hC : okC C cc nL own Ts) (hd : decode cc pc = .ok (.new index, 3)) (hin : ∀ x ∈ u_ws CN T N, x ∈ Ts) (hc : vwCl[ci]? = some (CN, T, N)) (ty : Nat → FieldType) (hty : ∀ k, k < N → parseFieldDescriptor (T k).2.2.1 = some (ty k)) (hcl : Cond.classLink own index CN ∈ Ts) (hinst : Cond.instantiable CN N ∈ Ts) (hini : Cond.initialized CN ∈ Ts) (hfs : ∀ j, j < N → defaultValue (ty j) = vp_V fs j) (hk : k + 1 ≤ (xR C).cells) (hn : n + N ≤ (xR C).slots) (hf : bnd (alC w (.inr (ci, fs))) F = some z) (kk : ∀ w' : cW, F w' = some z → V C w' (k + 1) (n + N) (pc + 3) lv (va_rf (some w.2.1) :: st)) : V C w k n pc lv st := by
  have hK := hC.K
  obtain ⟨p, l, e, R, s, m, args, below, meth, c, Q, nL, G, w0⟩ := C
  intro H locs ls hok hl
  have hts := hC.2.2.2.2.2.1
  have hKn := hK.1.1 ci _ hc
  refine W.newcK hC.1 hC.2.1 hC.2.2.2.2.1 (hts _ hcl) (hts _ hinst) (hts _ hini) rfl hd hk hn hKn.2.1 hok.1 fun H1 kC hkC e1 z1 o1 => ?_
  exact kk _ hf H1 locs ls (okc.new hok (okC.size hC.2.2.2.2.2.2.1) hC.2.2.2.2.2.2.1.2.2.2.2.1 ⟨_, hc, (u_born ty hts hin hKn hkC e1 hty).to hfs⟩ (by rw [z1, hok.1]) (fun q hq => o1 q (by rw [← hok.1]; exact hq))) hl
/-- checkcast to the object's own class, or of null -/
def cCast (w : cW) (r : Option Nat) (ci : Nat) : Option Unit := match r with
  | none => some ()
  | some a => (cObj w (some a) ci).map (fun _ => ())
theorem v_cast {CN : String} {T : u_T} {N ci index : Nat} {r : Option Nat} {F : Unit → Option β} (hC : okC C cc nL own Ts) (hd : decode cc pc = .ok (.checkcast index, 3)) (hc : vwCl[ci]? = some (CN, T, N)) (hcl : Cond.classLink own index CN ∈ Ts) (hf : (cCast w r ci).bind F = some z) (kk : F () = some z → V C w k n (pc + 3) lv (va_rf r :: st)) : V C w k n pc lv (va_rf r :: st) := by
  have hK := hC.K
  obtain ⟨p, l, e, R, s, m, args, below, meth, c, Q, nL, G, w0⟩ := C
  obtain ⟨⟨⟩, hx, hf1⟩ := ob hf
  intro H locs ls hok hl
  cases r with
  | none => exact lv_castN hC.1 hC.2.1 hd (kk hf1 H locs ls hok hl)
  | some a =>
    unfold cCast at hx
    try dsimp only at hx
    obtain ⟨fs, ho, -⟩ := Option.map_eq_some_iff.mp hx
    obtain ⟨a', ha', ha⟩ := cObj_of ho
    cases ha'
    have hKn := hK.1.1 ci _ hc
    exact va_castS hC.1 hC.2.1 hC.2.2.2.2.1 (hC.2.2.2.2.2.1 _ hcl) hKn.2 (va_recv (q0 := 0) hK.1 (va_P1 (q := (a, .inr (ci, fs))) (hok.2.1 a _ ha)) hc rfl) hd (kk hf1 H locs ls hok hl)
end VHEAP
end
section
/-! THE LAYER V: a method's entry, its returns, its calls -/
def mP (G : cG) (w : cW) (av : List Value) : Array Value → State → Prop := fun v U => v = av.toArray ∧ okw G w U
def mQ {α : Type} (mk : α → Option Value) (G : cG) (w w' : cW) (r : α) : Array Value → State → Outcome → State → Prop := fun _ st oc t => oc = .returned (mk r) ∧ okw G w' t ∧ (∀ (a : Nat) (e : cE), w'.1 a = some e → wrE e = true → Aw w a) ∧ w.2.1 ≤ w'.2.1 ∧ w'.2.2 = w.2.2 ∧ va_F (Aw w) st t
def mkI (x : Int32) : Option Value := some (.int x)
def mkL (x : Int64) : Option Value := some (.long x)
def mkR (x : Option Nat) : Option Value := some (va_rf x)
def mkV (_ : Unit) : Option Value := none
theorem okw.moved {G : cG} {w : cW} {u U : State} (hvm : u.vm.Alike U.vm) (hX : cX U) (hh : U.heap = u.heap) (h : okw G w u) : okw G w U := by
  obtain ⟨h1, h2, h3, h4, h5, h6⟩ := h
  exact ⟨h1.moved hvm hX, ⟨by rw [hh]; exact h2.1.moved hvm, h2.2.moved hvm⟩, by rw [hh]; exact h3, by rw [hh]; exact h4.moved hvm, h5, h6⟩
theorem mP_blind (G : cG) (w : cW) (av : List Value) : FrameBlind (mP G w av) := fun a U g mk h => ⟨h.1, h.2.moved (Vm.Alike.refl U.vm) (cX.same (u := U) rfl h.2.1.2.2) rfl⟩
theorem Aw_base {G : cG} {w : cW} {s : State} (h : okw G w s) {q : Nat} (hq : Aw w q) : G.1 ≤ q := by
  rcases hq with ⟨e, h1, h2⟩ | hq
  · exact h.2.2.2.2.2 q e h1 h2
  · exact Nat.le_trans h.2.2.2.2.1 hq
theorem Aw_mono {G : cG} {s : State} {w0 w : cW} {H : Heap} {locs : List Loc} (h0 : okw G w0 s) (h : okc G s w0 w H locs) {q : Nat} (hq : Aw w q) : Aw w0 q := by
  rcases hq with ⟨e, h1, h2⟩ | hq
  · exact (h.2.2.1 q e h1 h2).2
  · refine Or.inr (Nat.le_trans ?_ hq)
    rw [← h0.2.2.1, ← h.1]
    exact h.2.2.2.1.1
/-- what a world is when the method ends -/
theorem okc_end {α : Type} {mk : α → Option Value} {G : cG} {s t : State} {w0 w : cW} {H : Heap} {locs : List Loc} {a : Array Value} {r : α} {o : Option Value} (h0 : okw G w0 s) (h : okc G s w0 w H locs) (ht : t.heap = H) (hW : s.WarmedH t.vm) (ho : o = mk r) : mQ mk G w0 w r a s (.returned o) t := by
  obtain ⟨h1, h2, h3, h4, h5⟩ := h
  have hal := hW.alike
  refine ⟨by rw [ho], ⟨h0.1.moved hal (h0.1.2.2.warm hW), ⟨?_, ?_⟩, by rw [ht]; exact h1, by rw [ht]; exact h2.moved hal, ?_, fun b e hb he => (h3 b e hb he).1⟩, fun b e hb he => (h3 b e hb he).2, ?_, h5, h4.F ht⟩
  · rw [ht, h5]
    exact (h0.2.1.1.moved hal).kept (fun q g1 g2 => h4.2.1 q g1 (fun z => g2 (Aw_base h0 z)))
  · rw [h5]
    exact h0.2.1.2.moved hal
  · rw [← h1]
    exact Nat.le_trans h0.2.2.2.2.1 (by rw [← h0.2.2.1]; exact h4.1)
  · rw [← h1, ← h0.2.2.1]
    exact h4.1
def xE {α : Type} (C : xC) (ret : Option FieldType) (mk : α → Option Value) (G : cG) (w0 w' : cW) (r : α) : Prop := match C with
  | (_, _, _, R, s, _, args, below, meth, _, Q, _, G', w0') => meth.sig.returnType = ret ∧ G' = G ∧ w0' = w0 ∧ Q = MQ below (mQ mk G w0 w' r) args s R.cells R.slots (Aw w0)
def xl (C : xC) : Launch := C.2.1
def xs (C : xC) : State := C.2.2.2.2.1
def xg (C : xC) : cG := C.2.2.2.2.2.2.2.2.2.2.2.2.1
def xmeth (C : xC) : Method := C.2.2.2.2.2.2.2.2.1
def xargs (C : xC) : Array Value := C.2.2.2.2.2.2.1
/-- a method's contract out of its walk -/
theorem met_of {α : Type} {mk : α → Option Value} {l : Launch} {y : MethodName} {ws ws' : List Cond} {rm : Room} {cc : ByteArray} {nL : Nat} {ret : Option FieldType} {G : cG} {w0 w' : cW} {r : α} {av : List Value} (hy : plainFor y = true) (hw : ws = Cond.code y cc nL ret :: ws') (hlen : (lg_sl av).length ≤ nL)
    (body : ∀ C : xC, okC C cc nL y.cls ws → xR C = rm → xl C = l → xg C = G → (xmeth C).name = y.name → (∀ x ∈ ws, x.before (xargs C) (xs C) = true) → xE C ret mk G w0 w' r → V C w0 0 0 0 (lv_args 0 av) []) : Met l y ws rm (mP G w0 av) (mQ mk G w0 w' r) rm.cells rm.slots (Aw w0) := by
  refine va_MetF (cc := cc) (maxL := nL) (ret := ret) hy hw ?_
  intro p e s m args below meth c s₁ B hml hv
  obtain ⟨rfl, hok⟩ := hv
  have hts := atoms_spec (ws := ws) B.pre
  have hown : s.vm.findClass y.cls = some m.cls := findClass_of_methodNamed B.named
  rw [lg_entry_eq]
  have hl := lv_entry av (n := nL) hlen
  exact body (p, l, e, (headSpec ws rm).room, s, m, av.toArray, below, meth, c, MQ below (mQ mk G w0 w' r) av.toArray s rm.cells rm.slots (Aw w0), nL, G, w0)
    ⟨B.exec, B.bytes, hml, rfl, hown, hts, hok, B.notSynchronized⟩ rfl rfl rfl (name_of_methodNamed B.named B.method).1 hts ⟨B.returns, rfl, rfl, rfl⟩ s.heap [] _ ⟨hok.2.2.1, hok.2.2.2.1, fun a e ha he => ⟨hok.2.2.2.2.2 a e ha he, Or.inl ⟨e, ha, he⟩⟩, va_S.rf, rfl⟩ hl
theorem va_cat (r : Option Nat) : (va_rf r).category = 1 := by cases r <;> rfl
section VCALL
variable {C : xC} {cc : ByteArray} {nL : Nat} {own : String} {Ts : List Cond} {w : cW} {k n pc : Nat} {lv : List (Nat × Value)} {st : List Value} {β : Type} {z : β}
theorem v_iret {G : cG} {w0 w' : cW} {x r : Int32} (hC : okC C cc nL own Ts) (hE : xE C (some .int) mkI G w0 w' r) (hd : decode cc pc = .ok (.ireturn, 1)) (hk : k ≤ (xR C).cells) (hn : n ≤ (xR C).slots) (hf : some (x, w) = some (r, w')) : V C w k n pc lv [.int x] := by
  obtain ⟨p, l, e, R, s, m, args, below, meth, c, Q, nL, G', w0'⟩ := C
  obtain ⟨h1, rfl, rfl, rfl⟩ := hE
  cases hf
  intro H locs ls hok hl
  have hlk := hC.2.2.2.2.2.2.2
  exact W.widen hk hn (W.iret hC.1 hC.2.1 h1 (fun t ht hW => okc_end hC.2.2.2.2.2.2.1 hok ht hW rfl) hok.2.2.2.1.2.2 hd hlk)
theorem v_zret {G : cG} {w0 w' : cW} {x r : Int32} (hC : okC C cc nL own Ts) (hE : xE C (some .boolean) mkI G w0 w' r) (hd : decode cc pc = .ok (.ireturn, 1)) (hk : k ≤ (xR C).cells) (hn : n ≤ (xR C).slots) (hf : (if x = 0 ∨ x = 1 then some (x, w) else none) = some (r, w')) : V C w k n pc lv [.int x] := by
  obtain ⟨p, l, e, R, s, m, args, below, meth, c, Q, nL, G', w0'⟩ := C
  obtain ⟨h1, rfl, rfl, rfl⟩ := hE
  by_cases hx : x = 0 ∨ x = 1
  · rw [if_pos hx] at hf
    cases hf
    intro H locs ls hok hl
    have hlk := hC.2.2.2.2.2.2.2
    exact W.widen hk hn (W.zret hC.1 hC.2.1 h1 (by rcases hx with rfl | rfl <;> rfl) (fun t ht hW => okc_end hC.2.2.2.2.2.2.1 hok ht hW rfl) hok.2.2.2.1.2.2 hd hlk)
  · rw [if_neg hx] at hf
    cases hf
theorem v_lret {G : cG} {w0 w' : cW} {x r : Int64} (hC : okC C cc nL own Ts) (hE : xE C (some .long) mkL G w0 w' r) (hd : decode cc pc = .ok (.lreturn, 1)) (hk : k ≤ (xR C).cells) (hn : n ≤ (xR C).slots) (hf : some (x, w) = some (r, w')) : V C w k n pc lv [.long x] := by
  obtain ⟨p, l, e, R, s, m, args, below, meth, c, Q, nL, G', w0'⟩ := C
  obtain ⟨h1, rfl, rfl, rfl⟩ := hE
  cases hf
  intro H locs ls hok hl
  have hlk := hC.2.2.2.2.2.2.2
  exact W.widen hk hn (W.lret hC.1 hC.2.1 h1 (fun t ht hW => okc_end hC.2.2.2.2.2.2.1 hok ht hW rfl) hok.2.2.2.1.2.2 hd hlk)
theorem v_aret {G : cG} {w0 w' : cW} {x r : Option Nat} {rt : FieldType} (hC : okC C cc nL own Ts) (hE : xE C (some rt) mkR G w0 w' r) (hrt : (∃ n, rt = .object n) ∨ ∃ t, rt = .array t) (hd : decode cc pc = .ok (.areturn, 1)) (hk : k ≤ (xR C).cells) (hn : n ≤ (xR C).slots) (hf : some (x, w) = some (r, w')) : V C w k n pc lv [va_rf x] := by
  obtain ⟨p, l, e, R, s, m, args, below, meth, c, Q, nL, G', w0'⟩ := C
  obtain ⟨h1, rfl, rfl, rfl⟩ := hE
  cases hf
  intro H locs ls hok hl
  have hlk := hC.2.2.2.2.2.2.2
  exact W.widen hk hn (W.aret hC.1 hC.2.1 h1 hrt (by cases x with | none => exact Or.inl rfl | some a => exact Or.inr ⟨a, rfl⟩) (fun t ht hW => okc_end hC.2.2.2.2.2.2.1 hok ht hW rfl) hok.2.2.2.1.2.2 hd hlk)
theorem v_vret {G : cG} {w0 w' : cW} {r : Unit} (hC : okC C cc nL own Ts) (hE : xE C none mkV G w0 w' r) (hd : decode cc pc = .ok (.return_, 1)) (hk : k ≤ (xR C).cells) (hn : n ≤ (xR C).slots) (hf : some ((), w) = some (r, w')) : V C w k n pc lv [] := by
  obtain ⟨p, l, e, R, s, m, args, below, meth, c, Q, nL, G', w0'⟩ := C
  obtain ⟨h1, rfl, rfl, rfl⟩ := hE
  cases hf
  intro H locs ls hok hl
  have hlk := hC.2.2.2.2.2.2.2
  exact W.widen hk hn (W.vret hC.1 hC.2.1 h1 (fun t ht hW => okc_end hC.2.2.2.2.2.2.1 hok ht hW rfl) hok.2.2.2.1.2.2 hd hlk)
/-- behind a call: the callee's world is the caller's now -/
theorem okc_back {α : Type} {mk : α → Option Value} {G : cG} {s st₀ t T' : State} {w0 w w' : cW} {H : Heap} {locs L : List Loc} {a : Array Value} {r : α} {o : Outcome} (h0 : okw G w0 s) (h : okc G s w0 w H locs) (hst : st₀.heap = H) (hq : mQ mk G w w' r a st₀ o t) (e1 : T'.heap = t.heap) (e2 : T'.vm = t.vm) (hW : s.vm.Alike T'.vm) (hL : ∀ q ∈ L, Aw w q.base) : okc G s w0 w' T'.heap (locs ++ L) := by
  obtain ⟨-, g1, g2, g3, g4, g5⟩ := hq
  have hS := h.2.2.2.1
  have hal : t.vm.Alike s.vm := by rw [← e2]; exact hW.symm
  have hz : H.size ≤ T'.heap.size := by rw [e1, ← hst]; exact g5.1
  refine ⟨by rw [e1]; exact g1.2.2.1, by rw [e1]; exact g1.2.2.2.1.moved hal, fun b e hb he => ⟨g1.2.2.2.2.2 b e hb he, Aw_mono h0 h (g2 b e hb he)⟩, ⟨Nat.le_trans hS.1 hz, fun q q1 q2 => ?_, fun q hq => ?_⟩, by rw [g4]; exact h.2.2.2.2⟩
  · rw [e1, g5.2 q (by rw [hst]; exact Nat.lt_of_lt_of_le q1 hS.1) (fun c => q2 (Aw_mono h0 h c)), hst]
    exact hS.2.1 q q1 q2
  · rcases List.mem_append.mp hq with c | c
    · exact hS.2.2 q c
    · exact Aw_mono h0 h (hL q c)
theorem v_run {α : Type} {mk : α → Option Value} {w' : cW} {r : α} {mc ms : Nat} {rest st0 : List Value} {a : Array Value} (hC : okC C cc nL own Ts)
    (hr : match C with | (p, l, e, R, s, m, args, below, meth, c, _, nL, G, w0) => ∀ (H : Heap) (locs : List Loc) (ls : Array Slot), okc G s w0 w H locs → lv_has ls nL lv → va_Run p l e R s m args below meth c H locs k n mc ms (F0 m pc ls st0) rest (mQ mk G w w' r a) (Aw w))
    (kk : V C w' (k + mc) (n + ms) (pc + 3) lv ((mk r).toList ++ rest)) : V C w k n pc lv st0 := by
  obtain ⟨p, l, e, R, s, m, args, below, meth, c, Q, nL, G, w0⟩ := C
  intro H locs ls hok hl T hT X
  obtain ⟨v, st₀, t, T', L, h0, X', hL, e1, e2, hq, st⟩ := hr H locs ls hok hl T hT X
  have hv : v = mk r := by have := hq.1; cases this; rfl
  subst hv
  obtain ⟨t2, a1, b1⟩ := kk T'.heap (locs ++ L) ls (okc_back hC.2.2.2.2.2.2.1 hok h0 hq e1 e2 X'.warmed.alike hL) hl T' rfl X'
  exact ⟨t2, st t2 a1, b1⟩
def cRcv (w : cW) (r : Option Nat) (ci : Nat) : Option Nat := r.bind fun a => (cObj w (some a) ci).bind fun _ => some a
theorem cRcv_of {w : cW} {r : Option Nat} {ci b : Nat} (h : cRcv w r ci = some b) : r = some b ∧ ∃ fs, w.1 b = some (.inr (ci, fs)) := by
  obtain ⟨a, rfl, h1⟩ := ob h
  obtain ⟨fs, ho, h⟩ := ob h1
  cases h
  obtain ⟨a', ha', ha⟩ := cObj_of ho
  cases ha'
  exact ⟨rfl, fs, ha⟩
theorem okC.fix {p : Program} {l : Launch} {e : Env} {R : Room} {s : State} {m : MethodId} {args : Array Value} {below : List Frame} {meth : Method} {c : Code} {Q : State → Prop} {nL' : Nat} {G : cG} {w0 : cW} (hC : okC (p, l, e, R, s, m, args, below, meth, c, Q, nL', G, w0) cc nL own Ts) : CallFix p m c cc nL' s args Ts own := ⟨hC.1, hC.2.1, hC.2.2.1, hC.2.2.2.2.1, hC.2.2.2.2.2.1⟩
theorem okw_call {G : cG} {s U : State} {w0 w : cW} {H : Heap} {locs : List Loc} (h0 : okw G w0 s) (h : okc G s w0 w H locs) (hU : U.heap = H) (hW : s.WarmedH U.vm) : okw G w U := (okc_end (mk := mkV) (r := ()) (a := #[]) h0 h hU hW rfl).2.1
/-- the words of every method: its code, then the tables' good words -/
def lw_gd : List Cond := lw_tbl.filter goodWord
def wsM (y : MethodName) (cc : ByteArray) (nL : Nat) (ret : Option FieldType) : List Cond := Cond.code y cc nL ret :: lw_gd
theorem tin {w : Cond} (i : Nat) (h : lw_tbl[i]? = some w) (hg : goodWord w = true := by rfl) : w ∈ lw_gd := List.mem_filter.mpr ⟨List.mem_of_getElem? h, hg⟩
theorem gd_good {w : Cond} (h : w ∈ lw_gd) : (w.onTables && w.keeps) = true ∨ ∃ ty, w = .arrayClass ty := good_of_word (List.mem_filter.mp h).2
theorem wsM_in {y : MethodName} {cc : ByteArray} {nL : Nat} {ret : Option FieldType} (hc : Cond.code y cc nL ret ∈ lw_gd) : GoodIn lw_gd (wsM y cc nL ret) := by
  intro w hw
  rcases List.mem_cons.mp hw with rfl | h
  · exact ⟨hc, gd_good hc⟩
  · exact ⟨h, gd_good h⟩
theorem okC.tbl {y : MethodName} {cc' : ByteArray} {nL' : Nat} {ret : Option FieldType} (hC : okC C cc nL own (wsM y cc' nL' ret)) : okC C cc nL own lw_gd := by
  obtain ⟨p, l, e, R, s, m, args, below, meth, c, Q, nL, G, w0⟩ := C
  obtain ⟨h1, h2, h3, h4, h5, h6, h7⟩ := hC
  exact ⟨h1, h2, h3, h4, h5, fun w hw => h6 w (List.mem_cons_of_mem _ hw), h7⟩
abbrev yOk (y : MethodName) (n : Nat) : Prop := y.cls ≠ "java/lang/invoke/MethodHandle" ∧ y.cls ≠ "java/lang/invoke/VarHandle" ∧ (parseMethodDescriptor y.desc).map (fun d => d.parameters.length) = some n
/-- a call of an instance method of the object's own class, by invokevirtual -/
theorem v_callV {α : Type} {mk : α → Option Value} {y : MethodName} {rm : Room} {bytes : ByteArray} {maxL index ci N k' n' : Nat} {ret : Option FieldType} {CN : String} {T : u_T} {As rest : List Value} {r : Option Nat} {f : Nat → Option (α × cW)} {F : α → cW → Option β} (hC : okC C cc nL own lw_gd) (hd : decode cc pc = .ok (.invokevirtual index, 3))
    (hlk : Cond.methodLink own index y ∈ lw_gd) (hin : Cond.instanceMethod y ∈ lw_gd) (hse : Cond.selects CN y y ∈ lw_gd) (hini : Cond.initialized y.cls ∈ lw_gd) (hcd : Cond.code y bytes maxL ret ∈ lw_gd) {nA : Nat} (hy : yOk y nA) (hna : As.length = nA)
    (hc : vwCl[ci]? = some (CN, T, N)) (hM : ∀ b r' w', f b = some (r', w') → Met (xl C) y (wsM y bytes maxL ret) rm (mP (xg C) w (.ref b :: As)) (mQ mk (xg C) w w' r') rm.cells rm.slots (Aw w))
    (hR : rm.frames + 1 ≤ (xR C).frames ∧ 8 + (maxL + 11) + rm.locals ≤ (xR C).locals) (hst : (rest.map fun v => v.category).sum ≤ 8) (hk' : k + rm.cells ≤ k' ∧ n + rm.slots ≤ n') (hkn : k' ≤ (xR C).cells ∧ n' ≤ (xR C).slots)
    (hf : (cRcv w r ci).bind (fun b => cbd (f b) F) = some z) {st0 : List Value} {st1 : α → List Value} (hs0 : st0 = As.reverse ++ va_rf r :: rest) (hs1 : ∀ x, (mk x).toList ++ rest = st1 x) (kk : ∀ r' w', F r' w' = some z → V C w' k' n' (pc + 3) lv (st1 r')) : V C w k n pc lv st0 := by
  subst hs0
  have hy : yOk y As.length := by rw [hna]; exact hy
  obtain ⟨b, hb, hf1⟩ := ob hf
  obtain ⟨r', w', hfb, hf2⟩ := obc hf1
  obtain ⟨rfl, fs, hbw⟩ := cRcv_of hb
  have hK := hC.K
  refine v_run (a := (Value.ref b :: As).toArray) (mc := rm.cells) (ms := rm.slots) hC ?_ (V.widen hk'.1 hk'.2 (by rw [hs1]; exact kk r' w' hf2))
  have hm := hM b r' w' hfb
  obtain ⟨p, l, e, R, s, m, args, below, meth, c, Q, nL, G, w0⟩ := C
  intro H locs ls hok hl
  have hKn := hK.1.1 ci _ hc
  have hts := hC.2.2.2.2.2.1
  exact va_runV hC.fix hm ⟨callB_of As.length hts (wsM_in hcd) rfl rfl rfl (hts _ hini) (hts _ hlk) hy hR, hts _ hin, hts _ hse⟩ ⟨mP_blind _ _ _, va_recv (q0 := 0) hK.1 (va_P1 (q := (b, .inr (ci, fs))) (hok.2.1 b _ hbw)) hc rfl, fun U hU hW => ⟨rfl, okw_call hC.2.2.2.2.2.2.1 hok hU hW⟩⟩ rfl rfl hl.1 rfl (lv_room hst) hd ⟨Nat.le_trans hk'.1 hkn.1, Nat.le_trans hk'.2 hkn.2⟩
/-- the same, of a private method over the nest -/
theorem v_callVN {α : Type} {mk : α → Option Value} {y : MethodName} {rm : Room} {bytes : ByteArray} {maxL index ci N k' n' : Nat} {ret : Option FieldType} {CN host : String} {T : u_T} {As rest : List Value} {r : Option Nat} {f : Nat → Option (α × cW)} {F : α → cW → Option β} (hC : okC C cc nL own lw_gd) (hd : decode cc pc = .ok (.invokevirtual index, 3))
    (hlk : Cond.methodLinkNest own index y host ∈ lw_ex) (hin : Cond.instanceMethod y ∈ lw_gd) (hse : Cond.selects CN y y ∈ lw_gd) (hini : Cond.initialized y.cls ∈ lw_gd) (hcd : Cond.code y bytes maxL ret ∈ lw_gd) {nA : Nat} (hy : yOk y nA) (hna : As.length = nA)
    (hc : vwCl[ci]? = some (CN, T, N)) (hM : ∀ b r' w', f b = some (r', w') → Met (xl C) y (wsM y bytes maxL ret) rm (mP (xg C) w (.ref b :: As)) (mQ mk (xg C) w w' r') rm.cells rm.slots (Aw w))
    (hR : rm.frames + 1 ≤ (xR C).frames ∧ 8 + (maxL + 11) + rm.locals ≤ (xR C).locals) (hst : (rest.map fun v => v.category).sum ≤ 8) (hk' : k + rm.cells ≤ k' ∧ n + rm.slots ≤ n') (hkn : k' ≤ (xR C).cells ∧ n' ≤ (xR C).slots)
    (hf : (cRcv w r ci).bind (fun b => cbd (f b) F) = some z) {st0 : List Value} {st1 : α → List Value} (hs0 : st0 = As.reverse ++ va_rf r :: rest) (hs1 : ∀ x, (mk x).toList ++ rest = st1 x) (kk : ∀ r' w', F r' w' = some z → V C w' k' n' (pc + 3) lv (st1 r')) : V C w k n pc lv st0 := by
  subst hs0
  have hy : yOk y As.length := by rw [hna]; exact hy
  obtain ⟨b, hb, hf1⟩ := ob hf
  obtain ⟨r', w', hfb, hf2⟩ := obc hf1
  obtain ⟨rfl, fs, hbw⟩ := cRcv_of hb
  have hK := hC.K
  refine v_run (a := (Value.ref b :: As).toArray) (mc := rm.cells) (ms := rm.slots) hC ?_ (V.widen hk'.1 hk'.2 (by rw [hs1]; exact kk r' w' hf2))
  have hm := hM b r' w' hfb
  obtain ⟨p, l, e, R, s, m, args, below, meth, c, Q, nL, G, w0⟩ := C
  intro H locs ls hok hl
  have hKn := hK.1.1 ci _ hc
  have hts := hC.2.2.2.2.2.1
  exact va_runVN (host := host) hC.fix hm ⟨va_cnB As.length hts (wsM_in hcd) rfl rfl rfl (hK.2.2 _ hlk) (hts _ hini) hy hR, hts _ hin, hts _ hse⟩ ⟨mP_blind _ _ _, va_recv (q0 := 0) hK.1 (va_P1 (q := (b, .inr (ci, fs))) (hok.2.1 b _ hbw)) hc rfl, fun U hU hW => ⟨rfl, okw_call hC.2.2.2.2.2.2.1 hok hU hW⟩⟩ rfl rfl hl.1 rfl (lv_room hst) hd ⟨Nat.le_trans hk'.1 hkn.1, Nat.le_trans hk'.2 hkn.2⟩
theorem v_callS {α : Type} {mk : α → Option Value} {y : MethodName} {rm : Room} {bytes : ByteArray} {maxL index k' n' : Nat} {ret : Option FieldType} {As rest : List Value} {f : Option (α × cW)} {F : α → cW → Option β} (hC : okC C cc nL own lw_gd) (hd : decode cc pc = .ok (.invokestatic index, 3))
    (hlk : Cond.methodLink own index y ∈ lw_gd) (hin : Cond.static y ∈ lw_gd) (hini : Cond.initialized y.cls ∈ lw_gd) (hcd : Cond.code y bytes maxL ret ∈ lw_gd) {nA : Nat} (hy : yOk y nA) (hna : As.length = nA)
    (hM : ∀ r' w', f = some (r', w') → Met (xl C) y (wsM y bytes maxL ret) rm (mP (xg C) w As) (mQ mk (xg C) w w' r') rm.cells rm.slots (Aw w))
    (hR : rm.frames + 1 ≤ (xR C).frames ∧ 8 + (maxL + 11) + rm.locals ≤ (xR C).locals) (hst : (rest.map fun v => v.category).sum ≤ 8) (hk' : k + rm.cells ≤ k' ∧ n + rm.slots ≤ n') (hkn : k' ≤ (xR C).cells ∧ n' ≤ (xR C).slots)
    (hf : cbd f F = some z) {st0 : List Value} {st1 : α → List Value} (hs0 : st0 = As.reverse ++ rest) (hs1 : ∀ x, (mk x).toList ++ rest = st1 x) (kk : ∀ r' w', F r' w' = some z → V C w' k' n' (pc + 3) lv (st1 r')) : V C w k n pc lv st0 := by
  subst hs0
  have hy : yOk y As.length := by rw [hna]; exact hy
  obtain ⟨r', w', hfb, hf2⟩ := obc hf
  refine v_run (a := As.toArray) (mc := rm.cells) (ms := rm.slots) hC ?_ (V.widen hk'.1 hk'.2 (by rw [hs1]; exact kk r' w' hf2))
  have hm := hM r' w' hfb
  obtain ⟨p, l, e, R, s, m, args, below, meth, c, Q, nL, G, w0⟩ := C
  intro H locs ls hok hl
  have hts := hC.2.2.2.2.2.1
  exact va_runS hC.fix hm ⟨callB_of As.length hts (wsM_in hcd) rfl rfl rfl (hts _ hini) (hts _ hlk) hy hR, hts _ hin⟩ ⟨mP_blind _ _ _, fun U hU hW => ⟨rfl, okw_call hC.2.2.2.2.2.2.1 hok hU hW⟩⟩ rfl rfl hl.1 rfl (lv_room hst) hd ⟨Nat.le_trans hk'.1 hkn.1, Nat.le_trans hk'.2 hkn.2⟩
theorem v_callSN {α : Type} {mk : α → Option Value} {y : MethodName} {rm : Room} {bytes : ByteArray} {maxL index k' n' : Nat} {ret : Option FieldType} {host : String} {As rest : List Value} {f : Option (α × cW)} {F : α → cW → Option β} (hC : okC C cc nL own lw_gd) (hd : decode cc pc = .ok (.invokestatic index, 3))
    (hlk : Cond.methodLinkNest own index y host ∈ lw_ex) (hin : Cond.static y ∈ lw_gd) (hini : Cond.initialized y.cls ∈ lw_gd) (hcd : Cond.code y bytes maxL ret ∈ lw_gd) {nA : Nat} (hy : yOk y nA) (hna : As.length = nA)
    (hM : ∀ r' w', f = some (r', w') → Met (xl C) y (wsM y bytes maxL ret) rm (mP (xg C) w As) (mQ mk (xg C) w w' r') rm.cells rm.slots (Aw w))
    (hR : rm.frames + 1 ≤ (xR C).frames ∧ 8 + (maxL + 11) + rm.locals ≤ (xR C).locals) (hst : (rest.map fun v => v.category).sum ≤ 8) (hk' : k + rm.cells ≤ k' ∧ n + rm.slots ≤ n') (hkn : k' ≤ (xR C).cells ∧ n' ≤ (xR C).slots)
    (hf : cbd f F = some z) {st0 : List Value} {st1 : α → List Value} (hs0 : st0 = As.reverse ++ rest) (hs1 : ∀ x, (mk x).toList ++ rest = st1 x) (kk : ∀ r' w', F r' w' = some z → V C w' k' n' (pc + 3) lv (st1 r')) : V C w k n pc lv st0 := by
  subst hs0
  have hy : yOk y As.length := by rw [hna]; exact hy
  obtain ⟨r', w', hfb, hf2⟩ := obc hf
  have hK := hC.K
  refine v_run (a := As.toArray) (mc := rm.cells) (ms := rm.slots) hC ?_ (V.widen hk'.1 hk'.2 (by rw [hs1]; exact kk r' w' hf2))
  have hm := hM r' w' hfb
  obtain ⟨p, l, e, R, s, m, args, below, meth, c, Q, nL, G, w0⟩ := C
  intro H locs ls hok hl
  have hts := hC.2.2.2.2.2.1
  exact va_runSN (host := host) hC.fix hm ⟨va_cnB As.length hts (wsM_in hcd) rfl rfl rfl (hK.2.2 _ hlk) (hts _ hini) hy hR, hts _ hin, trivial⟩ ⟨mP_blind _ _ _, fun U hU hW => ⟨rfl, okw_call hC.2.2.2.2.2.2.1 hok hU hW⟩⟩ rfl rfl hl.1 rfl (lv_room hst) hd ⟨Nat.le_trans hk'.1 hkn.1, Nat.le_trans hk'.2 hkn.2⟩
theorem v_callI {y : MethodName} {rm : Room} {bytes : ByteArray} {maxL index b k' n' : Nat} {As rest : List Value} {f : Option (Unit × cW)} {F : Unit → cW → Option β} (hC : okC C cc nL own lw_gd) (hd : decode cc pc = .ok (.invokespecial index, 3))
    (hlk : Cond.methodLink own index y ∈ lw_gd) (hin : Cond.instanceMethod y ∈ lw_gd) (hini : Cond.initialized y.cls ∈ lw_gd) (hcd : Cond.code y bytes maxL none ∈ lw_gd) (hnm : y.name = "<init>") {nA : Nat} (hy : yOk y nA) (hna : As.length = nA)
    (hM : ∀ r' w', f = some (r', w') → Met (xl C) y (wsM y bytes maxL none) rm (mP (xg C) w (.ref b :: As)) (mQ mkV (xg C) w w' r') rm.cells rm.slots (Aw w))
    (hR : rm.frames + 1 ≤ (xR C).frames ∧ 8 + (maxL + 11) + rm.locals ≤ (xR C).locals) (hst : (rest.map fun v => v.category).sum ≤ 8) (hk' : k + rm.cells ≤ k' ∧ n + rm.slots ≤ n') (hkn : k' ≤ (xR C).cells ∧ n' ≤ (xR C).slots)
    (hf : cbd f F = some z) {st0 : List Value} (hs0 : st0 = As.reverse ++ va_rf (some b) :: rest) (kk : ∀ r' w', F r' w' = some z → V C w' k' n' (pc + 3) lv rest) : V C w k n pc lv st0 := by
  subst hs0
  have hy : yOk y As.length := by rw [hna]; exact hy
  obtain ⟨r', w', hfb, hf2⟩ := obc hf
  refine v_run (a := (Value.ref b :: As).toArray) (mk := mkV) (r := r') (mc := rm.cells) (ms := rm.slots) hC ?_ (V.widen hk'.1 hk'.2 (kk r' w' hf2))
  have hm := hM r' w' hfb
  obtain ⟨p, l, e, R, s, m, args, below, meth, c, Q, nL, G, w0⟩ := C
  intro H locs ls hok hl
  have hts := hC.2.2.2.2.2.1
  exact va_runI hC.fix hm ⟨callB_of As.length hts (wsM_in hcd) rfl rfl rfl (hts _ hini) (hts _ hlk) hy hR, hnm, hts _ hin⟩ ⟨mP_blind _ _ _, fun U hU hW => ⟨rfl, okw_call hC.2.2.2.2.2.2.1 hok hU hW⟩⟩ rfl rfl hl.1 rfl (lv_room hst) hd ⟨Nat.le_trans hk'.1 hkn.1, Nat.le_trans hk'.2 hkn.2⟩
theorem v_callIN {y : MethodName} {rm : Room} {bytes : ByteArray} {maxL index b k' n' : Nat} {host : String} {As rest : List Value} {f : Option (Unit × cW)} {F : Unit → cW → Option β} (hC : okC C cc nL own lw_gd) (hd : decode cc pc = .ok (.invokespecial index, 3))
    (hlk : Cond.methodLinkNest own index y host ∈ lw_ex) (hin : Cond.instanceMethod y ∈ lw_gd) (hini : Cond.initialized y.cls ∈ lw_gd) (hcd : Cond.code y bytes maxL none ∈ lw_gd) (hnm : y.name = "<init>") {nA : Nat} (hy : yOk y nA) (hna : As.length = nA)
    (hM : ∀ r' w', f = some (r', w') → Met (xl C) y (wsM y bytes maxL none) rm (mP (xg C) w (.ref b :: As)) (mQ mkV (xg C) w w' r') rm.cells rm.slots (Aw w))
    (hR : rm.frames + 1 ≤ (xR C).frames ∧ 8 + (maxL + 11) + rm.locals ≤ (xR C).locals) (hst : (rest.map fun v => v.category).sum ≤ 8) (hk' : k + rm.cells ≤ k' ∧ n + rm.slots ≤ n') (hkn : k' ≤ (xR C).cells ∧ n' ≤ (xR C).slots)
    (hf : cbd f F = some z) {st0 : List Value} (hs0 : st0 = As.reverse ++ va_rf (some b) :: rest) (kk : ∀ r' w', F r' w' = some z → V C w' k' n' (pc + 3) lv rest) : V C w k n pc lv st0 := by
  subst hs0
  have hy : yOk y As.length := by rw [hna]; exact hy
  obtain ⟨r', w', hfb, hf2⟩ := obc hf
  have hK := hC.K
  refine v_run (a := (Value.ref b :: As).toArray) (mk := mkV) (r := r') (mc := rm.cells) (ms := rm.slots) hC ?_ (V.widen hk'.1 hk'.2 (kk r' w' hf2))
  have hm := hM r' w' hfb
  obtain ⟨p, l, e, R, s, m, args, below, meth, c, Q, nL, G, w0⟩ := C
  intro H locs ls hok hl
  have hts := hC.2.2.2.2.2.1
  exact va_runIN (host := host) hC.fix hm ⟨va_cnB As.length hts (wsM_in hcd) rfl rfl rfl (hK.2.2 _ hlk) (hts _ hini) hy hR, hnm, hts _ hin⟩ ⟨mP_blind _ _ _, fun U hU hW => ⟨rfl, okw_call hC.2.2.2.2.2.2.1 hok hU hW⟩⟩ rfl rfl hl.1 rfl (lv_room hst) hd ⟨Nat.le_trans hk'.1 hkn.1, Nat.le_trans hk'.2 hkn.2⟩
theorem v_objInit {index b : Nat} {rest : List Value} (hC : okC C cc nL own lw_gd) (hd : decode cc pc = .ok (.invokespecial index, 3)) (hlk : Cond.methodLink own index Lib.objectInit ∈ lw_gd) (hin : Cond.instanceMethod Lib.objectInit ∈ lw_gd) (hcd : Cond.code Lib.objectInit ⟨#[0xb1]⟩ 1 none ∈ lw_gd) (hst : (rest.map fun v => v.category).sum ≤ 8) (hR : 1 ≤ (xR C).frames ∧ 20 ≤ (xR C).locals) (kk : V C w k n (pc + 3) lv rest) : V C w k n pc lv (va_rf (some b) :: rest) := by
  obtain ⟨p, l, e, R, s, m, args, below, meth, c, Q, nL, G, w0⟩ := C
  intro H locs ls hok hl
  have hts := hC.2.2.2.2.2.1
  exact W.objInit hC.1 hC.2.1 hC.2.2.2.2.1 (hts _ hlk) (hts _ hin) (hts _ hcd) rfl (by rw [hC.2.2.1]; exact hl.1) rfl hd hR.1 (by show 2 * 0 + _ + 12 ≤ R.locals; have := hR.2; dsimp only [xR] at this; omega) (kk H locs ls hok hl)
end VCALL
end
section
/-! THE LAYER V: fields by their types, the JDK's own members that have rows, loops -/
def lp {τ : Type} (bot : τ) (body : τ → τ) : Nat → τ
  | 0 => bot
  | n + 1 => body (lp bot body n)
theorem lp_P {τ : Type} {bot : τ} {body : τ → τ} {P : τ → Prop} (h0 : P bot) (hs : ∀ f, P f → P (body f)) : ∀ n, P (lp bot body n)
  | 0 => h0
  | n + 1 => hs _ (lp_P h0 hs n)
/-- how often a loop may go round -/
def FU : Nat := 5000
section VMORE
variable {C : xC} {cc : ByteArray} {nL : Nat} {own : String} {Ts : List Cond} {w : cW} {k n pc : Nat} {lv : List (Nat × Value)} {st : List Value} {β : Type} {z : β}
theorem v_iincB {i : Nat} {j : Int} {x v : Int32} {F : Int32 → Option β} (hC : okC C cc nL own Ts) (hd : decode cc pc = .ok (.iinc i j, 3)) (q : Nat) (hq : lv[q]? = some (i, .int x)) (hv : Int32.ofInt j = v) (hn : i < nL) (lv' : Int32 → List (Nat × Value)) (hl' : ∀ y : Int32, (i, Value.int y) :: lv.filter (fun q => !(q.1 == i) && !(q.1 + 1 == i && q.2.category == 2)) = lv' y) (hf : bnd (x + v) F = some z) (kk : ∀ y : Int32, F y = some z → V C w k n (pc + 3) (lv' y) st) : V C w k n pc lv st :=
  v_iinc hC hd q hq (by rw [hv]) hn (lv' (x + v)) (hl' (x + v)) (kk (x + v) hf)
theorem narrow_rf {ty : FieldType} (h : (∃ N, ty = .object N) ∨ ∃ t, ty = .array t) (r : Option Nat) : narrow ty (va_rf r) = va_rf r := by
  rcases h with ⟨N, rfl⟩ | ⟨t, rfl⟩ <;> cases r <;> rfl
theorem fits_rf {ty : FieldType} (h : (∃ N, ty = .object N) ∨ ∃ t, ty = .array t) (r : Option Nat) : fits ty (va_rf r) = true := by
  rcases h with ⟨N, rfl⟩ | ⟨t, rfl⟩ <;> cases r <;> rfl
theorem pZ_of {w w' : cW} {r : Option Nat} {ci j : Nat} {x : Int32} (h : pZ w r ci j x = some w') : (x = 0 ∨ x = 1) ∧ pF w r ci j (.int x) = some w' := by
  unfold pZ at h
  by_cases hx : x = 0 ∨ x = 1
  · rw [if_pos hx] at h
    exact ⟨hx, h⟩
  · rw [if_neg hx] at h
    cases h
section PUTS
variable {ref CN : String} {T : u_T} {N ci index : Nat} {r : Option Nat} {F : cW → Option β}
theorem v_putI {x : Int32} (hC : okC C cc nL own Ts) (hd : decode cc pc = .ok (.putfield index, 3)) (hin : ∀ x ∈ u_ws CN T N, x ∈ Ts) (hc : vwCl[ci]? = some (CN, T, N)) (ty0 : Nat → FieldType) (hty : ∀ k, k < N → parseFieldDescriptor (T k).2.2.1 = some (ty0 k)) (hnm : ∀ a, a < N → ∀ b, b < N → a ≠ b → (T a).2.1 ≠ (T b).2.1) (j : Nat) (hj : j < N) (hlink : Cond.fieldLink own index ref (T j).2.1 (T j).2.2.1 ∈ Ts) (hsm : ref = (T j).1 ∨ Cond.sameField ref (T j).1 (T j).2.1 (T j).2.2.1 ∈ Ts) (hfin : (T j).2.2.2 = false) (hdt : parseFieldDescriptor (T j).2.2.1 = some .int) (hf : (pI w r ci j x).bind F = some z) (kk : ∀ w', F w' = some z → V C w' k n (pc + 3) lv st) : V C w k n pc lv (.int x :: va_rf r :: st) := by
  obtain ⟨w', hp, hf⟩ := ob hf
  exact v_putF hC hd hin hc ty0 hty hnm j hj hlink hsm hfin hdt rfl rfl hp (kk w' hf)
theorem v_putZ {x : Int32} (hC : okC C cc nL own Ts) (hd : decode cc pc = .ok (.putfield index, 3)) (hin : ∀ x ∈ u_ws CN T N, x ∈ Ts) (hc : vwCl[ci]? = some (CN, T, N)) (ty0 : Nat → FieldType) (hty : ∀ k, k < N → parseFieldDescriptor (T k).2.2.1 = some (ty0 k)) (hnm : ∀ a, a < N → ∀ b, b < N → a ≠ b → (T a).2.1 ≠ (T b).2.1) (j : Nat) (hj : j < N) (hlink : Cond.fieldLink own index ref (T j).2.1 (T j).2.2.1 ∈ Ts) (hsm : ref = (T j).1 ∨ Cond.sameField ref (T j).1 (T j).2.1 (T j).2.2.1 ∈ Ts) (hfin : (T j).2.2.2 = false) (hdt : parseFieldDescriptor (T j).2.2.1 = some .boolean) (hf : (pZ w r ci j x).bind F = some z) (kk : ∀ w', F w' = some z → V C w' k n (pc + 3) lv st) : V C w k n pc lv (.int x :: va_rf r :: st) := by
  obtain ⟨w', hp, hf⟩ := ob hf
  obtain ⟨hx, hp⟩ := pZ_of hp
  exact v_putF hC hd hin hc ty0 hty hnm j hj hlink hsm hfin hdt (by rcases hx with rfl | rfl <;> rfl) (by rcases hx with rfl | rfl <;> rfl) hp (kk w' hf)
theorem v_putQ {x : Option Nat} {ty : FieldType} (hC : okC C cc nL own Ts) (hd : decode cc pc = .ok (.putfield index, 3)) (hin : ∀ x ∈ u_ws CN T N, x ∈ Ts) (hc : vwCl[ci]? = some (CN, T, N)) (ty0 : Nat → FieldType) (hty : ∀ k, k < N → parseFieldDescriptor (T k).2.2.1 = some (ty0 k)) (hnm : ∀ a, a < N → ∀ b, b < N → a ≠ b → (T a).2.1 ≠ (T b).2.1) (j : Nat) (hj : j < N) (hlink : Cond.fieldLink own index ref (T j).2.1 (T j).2.2.1 ∈ Ts) (hsm : ref = (T j).1 ∨ Cond.sameField ref (T j).1 (T j).2.1 (T j).2.2.1 ∈ Ts) (hfin : (T j).2.2.2 = false) (hdt : parseFieldDescriptor (T j).2.2.1 = some ty) (hrt : (∃ N, ty = .object N) ∨ ∃ t, ty = .array t) (hf : (pQ w r ci j x).bind F = some z) (kk : ∀ w', F w' = some z → V C w' k n (pc + 3) lv st) : V C w k n pc lv (va_rf x :: va_rf r :: st) := by
  obtain ⟨w', hp, hf⟩ := ob hf
  exact v_putF hC hd hin hc ty0 hty hnm j hj hlink hsm hfin hdt (narrow_rf hrt x) (fits_rf hrt x) hp (kk w' hf)
theorem v_putCI {x : Int32} (hC : okC C cc nL own Ts) (hd : decode cc pc = .ok (.putfield index, 3)) (hin : ∀ x ∈ u_ws CN T N, x ∈ Ts) (hc : vwCl[ci]? = some (CN, T, N)) (ty0 : Nat → FieldType) (hty : ∀ k, k < N → parseFieldDescriptor (T k).2.2.1 = some (ty0 k)) (hnm : ∀ a, a < N → ∀ b, b < N → a ≠ b → (T a).2.1 ≠ (T b).2.1) (j : Nat) (hj : j < N) (hlink : Cond.fieldLink own index (T j).1 (T j).2.1 (T j).2.2.1 ∈ Ts) (hfin : (T j).2.2.2 = true) (hname : (xmeth C).name = "<init>") (hdecl : (T j).1 = own) (hdt : parseFieldDescriptor (T j).2.2.1 = some .int) (hf : (pI w r ci j x).bind F = some z) (kk : ∀ w', F w' = some z → V C w' k n (pc + 3) lv st) : V C w k n pc lv (.int x :: va_rf r :: st) := by
  obtain ⟨w', hp, hf⟩ := ob hf
  exact v_putC hC hd hin hc ty0 hty hnm j hj hlink hfin hname hdecl hdt rfl rfl hp (kk w' hf)
theorem v_putCQ {x : Option Nat} {ty : FieldType} (hC : okC C cc nL own Ts) (hd : decode cc pc = .ok (.putfield index, 3)) (hin : ∀ x ∈ u_ws CN T N, x ∈ Ts) (hc : vwCl[ci]? = some (CN, T, N)) (ty0 : Nat → FieldType) (hty : ∀ k, k < N → parseFieldDescriptor (T k).2.2.1 = some (ty0 k)) (hnm : ∀ a, a < N → ∀ b, b < N → a ≠ b → (T a).2.1 ≠ (T b).2.1) (j : Nat) (hj : j < N) (hlink : Cond.fieldLink own index (T j).1 (T j).2.1 (T j).2.2.1 ∈ Ts) (hfin : (T j).2.2.2 = true) (hname : (xmeth C).name = "<init>") (hdecl : (T j).1 = own) (hdt : parseFieldDescriptor (T j).2.2.1 = some ty) (hrt : (∃ N, ty = .object N) ∨ ∃ t, ty = .array t) (hf : (pQ w r ci j x).bind F = some z) (kk : ∀ w', F w' = some z → V C w' k n (pc + 3) lv st) : V C w k n pc lv (va_rf x :: va_rf r :: st) := by
  obtain ⟨w', hp, hf⟩ := ob hf
  exact v_putC hC hd hin hc ty0 hty hnm j hj hlink hfin hname hdecl hdt (narrow_rf hrt x) (fits_rf hrt x) hp (kk w' hf)
end PUTS
theorem v_mmax {index : Nat} {x y : Int32} (hC : okC C cc nL own lw_gd) (hd : decode cc pc = .ok (.invokestatic index, 3)) (hlk : Cond.methodLink own index Lib.Math.max.name ∈ lw_gd) (hin : Cond.static Lib.Math.max.name ∈ lw_gd) (hini : Cond.initialized "java/lang/Math" ∈ lw_gd) (hcd : Cond.code Lib.Math.max.name Lib.Math.max.code 2 (some .int) ∈ lw_gd) (hR : 1 ≤ (xR C).frames ∧ 21 ≤ (xR C).locals) (hst : (st.map fun v => v.category).sum ≤ 8) (hkn : k ≤ (xR C).cells ∧ n ≤ (xR C).slots) (kk : V C w k n (pc + 3) lv (.int (if x < y then y else x) :: st)) : V C w k n pc lv (.int y :: .int x :: st) := by
  obtain ⟨p, l, e, R, s, m, args, below, meth, c, Q, nL, G, w0⟩ := C
  intro H locs ls hok hl
  have hts := hC.2.2.2.2.2.1
  dsimp only [xR] at hR hkn
  exact va_mmax hC.1 hC.2.1 (by rw [hC.2.2.1]; exact hl.1.symm) hC.2.2.2.2.1 (hts _ hlk) (hts _ hin) (hts _ hini) (hts _ hcd) hR.1 (by omega) hkn.1 hkn.2 hd (kk H locs ls hok hl)
theorem v_mmin {index : Nat} {x y : Int32} (hC : okC C cc nL own lw_gd) (hd : decode cc pc = .ok (.invokestatic index, 3)) (hlk : Cond.methodLink own index Lib.Math.min.name ∈ lw_gd) (hin : Cond.static Lib.Math.min.name ∈ lw_gd) (hini : Cond.initialized "java/lang/Math" ∈ lw_gd) (hcd : Cond.code Lib.Math.min.name Lib.Math.min.code 2 (some .int) ∈ lw_gd) (hR : 1 ≤ (xR C).frames ∧ 21 ≤ (xR C).locals) (hst : (st.map fun v => v.category).sum ≤ 8) (hkn : k ≤ (xR C).cells ∧ n ≤ (xR C).slots) (kk : V C w k n (pc + 3) lv (.int (if y < x then y else x) :: st)) : V C w k n pc lv (.int y :: .int x :: st) := by
  obtain ⟨p, l, e, R, s, m, args, below, meth, c, Q, nL, G, w0⟩ := C
  intro H locs ls hok hl
  have hts := hC.2.2.2.2.2.1
  dsimp only [xR] at hR hkn
  exact va_mmin hC.1 hC.2.1 (by rw [hC.2.2.1]; exact hl.1.symm) hC.2.2.2.2.1 (hts _ hlk) (hts _ hin) (hts _ hini) (hts _ hcd) hR.1 (by omega) hkn.1 hkn.2 hd (kk H locs ls hok hl)
theorem v_mabsl {index : Nat} {x : Int64} (hC : okC C cc nL own lw_gd) (hd : decode cc pc = .ok (.invokestatic index, 3)) (hlk : Cond.methodLink own index Lib.MathLoose.abs_long.x ∈ lw_gd) (hin : Cond.static Lib.MathLoose.abs_long.x ∈ lw_gd) (hini : Cond.initialized "java/lang/Math" ∈ lw_gd) (hcd : Cond.code Lib.MathLoose.abs_long.x Lib.MathLoose.abs_long.code 2 (some .long) ∈ lw_gd) (hR : 1 ≤ (xR C).frames ∧ 21 ≤ (xR C).locals) (hst : (st.map fun v => v.category).sum ≤ 8) (hkn : k ≤ (xR C).cells ∧ n ≤ (xR C).slots) (kk : V C w k n (pc + 3) lv (.long (if 0 < x then x else -x) :: st)) : V C w k n pc lv (.long x :: st) := by
  obtain ⟨p, l, e, R, s, m, args, below, meth, c, Q, nL, G, w0⟩ := C
  intro H locs ls hok hl
  have hts := hC.2.2.2.2.2.1
  dsimp only [xR] at hR hkn
  exact va_mabs_long hC.1 hC.2.1 (by rw [hC.2.2.1]; exact hl.1.symm) hC.2.2.2.2.1 (hts _ hlk) (hts _ hin) (hts _ hini) (hts _ hcd) hR.1 (by omega) hkn.1 hkn.2 hd (kk H locs ls hok hl)
/-- ArrayList's empty array, out of its static field -/
theorem v_gets {index : Nat} (hC : okC C cc nL own lw_gd) (hd : decode cc pc = .ok (.getstatic index, 3)) (hlk : Cond.fieldLink own index zC zN zD ∈ lw_gd) (kk : V C w k n (pc + 3) lv (va_rf (some w.2.2.1) :: st)) : V C w k n pc lv st := by
  obtain ⟨p, l, e, R, s, m, args, below, meth, c, Q, nL, G, w0⟩ := C
  intro H locs ls hok hl
  have hts := hC.2.2.2.2.2.1
  have h0 := hC.2.2.2.2.2.2.1
  have hz := h0.2.1.1
  have hk2 := kk H locs ls hok hl
  rw [hok.2.2.2.2] at hk2
  exact va_gets (A := Aw w0) (v := .ref w0.2.2.1) hC.1 hC.2.1 (hz.narrow (fun q hq => Aw_base h0 hq)) hok.2.2.2.1 hC.2.2.2.2.1 (hts _ hlk) (fun _ q => q) hd hk2
/-- the class object of Object[] -/
theorem v_ldcM {index : Nat} (hC : okC C cc nL own lw_gd) (hd : decode cc pc = .ok (.ldc index, 2)) (hlk : Cond.classLink own index mC ∈ lw_gd) (kk : V C w k n (pc + 2) lv (va_rf (some w.2.2.2) :: st)) : V C w k n pc lv st := by
  obtain ⟨p, l, e, R, s, m, args, below, meth, c, Q, nL, G, w0⟩ := C
  intro H locs ls hok hl
  have hts := hC.2.2.2.2.2.1
  have h0 := hC.2.2.2.2.2.2.1
  have hk2 := kk H locs ls hok hl
  rw [hok.2.2.2.2] at hk2
  exact va_ldcM hC.1 hC.2.1 hC.2.2.2.2.1 (hts _ hlk) h0.2.1.2 hd hk2
/-- System.arraycopy between arrays of ints -/
def cpI (w : cW) (rs : Option Nat) (sp : Int32) (rd : Option Nat) (dp i : Int32) : Option cW := (cArr w rs).bind fun q => (cArr w rd).bind fun u => match q.2.2.2 with
  | .inl f => match u.2.2.2 with
    | .inl g => if q.2.1 = 0 ∧ u.2.1 = 0 ∧ ¬ sp < 0 ∧ ¬ dp < 0 ∧ ¬ i < 0 ∧ sp.toNatClampNeg + i.toNatClampNeg ≤ q.2.2.1 ∧ dp.toNatClampNeg + i.toNatClampNeg ≤ u.2.2.1 then some (va_up w.1 u.1 (some (.inl (0, u.2.2.1, .inl (va_cpy f g sp.toNatClampNeg dp.toNatClampNeg i.toNatClampNeg)))), w.2) else none
    | _ => none
  | _ => none
theorem cpI_of {w w' : cW} {rs rd : Option Nat} {sp dp i : Int32} (h : cpI w rs sp rd dp i = some w') : ∃ a0 a n0 n1 f g, rs = some a0 ∧ rd = some a ∧ w.1 a0 = some (.inl (0, n0, .inl f)) ∧ w.1 a = some (.inl (0, n1, .inl g)) ∧ ¬ sp < 0 ∧ ¬ dp < 0 ∧ ¬ i < 0 ∧ sp.toNatClampNeg + i.toNatClampNeg ≤ n0 ∧ dp.toNatClampNeg + i.toNatClampNeg ≤ n1 ∧ w' = (va_up w.1 a (some (.inl (0, n1, .inl (va_cpy f g sp.toNatClampNeg dp.toNatClampNeg i.toNatClampNeg)))), w.2) := by
  obtain ⟨⟨a0, t0, n0, y0⟩, h0, hz⟩ := ob h
  obtain ⟨⟨a1, t1, n1, y1⟩, h1, hy⟩ := ob hz
  obtain ⟨rfl, g0⟩ := cArr_of h0
  obtain ⟨rfl, g1⟩ := cArr_of h1
  rcases y0 with f | y0
  · rcases y1 with g | y1
    · try dsimp only at hy
      by_cases hc : t0 = 0 ∧ t1 = 0 ∧ ¬ sp < 0 ∧ ¬ dp < 0 ∧ ¬ i < 0 ∧ sp.toNatClampNeg + i.toNatClampNeg ≤ n0 ∧ dp.toNatClampNeg + i.toNatClampNeg ≤ n1
      · rw [if_pos hc] at hy
        obtain ⟨rfl, rfl, c1, c2, c3, c4, c5⟩ := hc
        cases hy
        exact ⟨a0, a1, n0, n1, f, g, rfl, rfl, g0, g1, c1, c2, c3, c4, c5, rfl⟩
      · rw [if_neg hc] at hy
        cases hy
    · cases hy
  · cases hy
theorem nn_clamp : ∀ z : Int32, ¬ z < 0 → z.toInt = (z.toNatClampNeg : Int) := by
  intro z hz
  have hz0 : (0 : Int) ≤ z.toInt := by
    have := Int32.not_lt.mp hz
    simpa using Int32.le_iff_toInt_le.mp this
  show z.toInt = ((z.toInt.toNat : Nat) : Int)
  omega
theorem v_copyI {index : Nat} {rs rd : Option Nat} {sp dp i : Int32} {F : cW → Option β} (hC : okC C cc nL own lw_gd) (hd : decode cc pc = .ok (.invokestatic index, 3)) (hlk : Cond.methodLink own index arraycopyName ∈ lw_gd) (hnat : Cond.native arraycopyName ∈ lw_gd) (hstat : Cond.static arraycopyName ∈ lw_gd) (hini : Cond.initialized "java/lang/System" ∈ lw_gd) (hR : 1 ≤ (xR C).frames ∧ 8 + (nativeFrameWords "java/lang/System" "arraycopy" 5 + 11) ≤ (xR C).locals) (hst : (st.map fun v => v.category).sum ≤ 8) (hf : (cpI w rs sp rd dp i).bind F = some z) (kk : ∀ w', F w' = some z → V C w' k n (pc + 3) lv st) : V C w k n pc lv (.int i :: .int dp :: va_rf rd :: .int sp :: va_rf rs :: st) := by
  have hK := hC.K
  obtain ⟨p, l, e, R, s, m, args, below, meth, c, Q, nL, G, w0⟩ := C
  obtain ⟨w', hp, hf⟩ := ob hf
  obtain ⟨a0, a, n0, n1, f, g, rfl, rfl, g0, g1, h1, h2, h3, h4, h5, rfl⟩ := cpI_of hp
  intro H locs ls hok hl T hT X
  have hts := hC.2.2.2.2.2.1
  dsimp only [xR] at hR
  have hc0 : H[a0]? = some (vp_cell (G.2.2 0) (n0, .inl f)) := cAt_arr (by decide) (hok.2.1 a0 _ g0)
  have hc1 : H[a]? = some (vp_cell (G.2.2 0) (n1, .inl g)) := cAt_arr (by decide) (hok.2.1 a _ g1)
  obtain ⟨-, k0, hk0, cm0, hkk0⟩ := (hK.2.1 0 (by decide)).1 n0 (fun j => .int (f j))
  obtain ⟨-, k1, hk1, cm1, hkk1⟩ := (hK.2.1 0 (by decide)).1 n1 (fun j => .int (g j))
  obtain ⟨vm', X', step⟩ := X.arraycopy hC.1 hC.2.2.2.2.1 (hts _ hlk) (hts _ hnat) (hts _ hstat) (hts _ hini) (src := a0) (dst := a) (cs := vp_cell (G.2.2 0) (n0, .inl f)) (cd := vp_cell (G.2.2 0) (n1, .inl g)) (srcPos := sp) (destPos := dp) (n := i) (by rw [hT]; exact hc0) (by rw [hT]; exact hc1)
    (fun _ h => by cases h) (fun _ h => by cases h) (fun h => by cases h) (fun h => by cases h) hk0 hk1 hkk0 hkk1 (by decide) h1 h2 h3
    (by rw [nn_clamp sp h1, nn_clamp i h3]; show ¬ _ > ((arrV _ n0 (fun j => .int (f j))).slots.size : Int); rw [arrV_size]; omega)
    (by rw [nn_clamp dp h2, nn_clamp i h3]; show ¬ _ > ((arrV _ n1 (fun j => .int (g j))).slots.size : Int); rw [arrV_size]; omega)
    (fun vm₁ _ j hj => by
      have e : (vp_cell (G.2.2 0) (n0, .inl f)).slots.getD (sp.toNatClampNeg + j) .null = .int (f (sp.toNatClampNeg + j)) := by
        show (arrV _ n0 (fun j => .int (f j))).slots.getD _ _ = _
        rw [Array.getD_eq_getD_getElem?, arrV_read _ _ (by omega)]
        rfl
      refine ⟨?_, ?_⟩
      · rw [e]
        rfl
      · rw [e]
        exact trivial)
    (g := F0 m pc ls (.int i :: .int dp :: .ref a :: .int sp :: .ref a0 :: st)) rfl (by show ls.size = _; rw [hl.1, hC.2.2.1]) (rest := st) rfl (by rw [hC.2.1]; exact hd) hR.1 (by show 2 * 0 + _ + _ ≤ _; omega)
  have e1 : copied (vp_cell (G.2.2 0) (n0, .inl f)) (vp_cell (G.2.2 0) (n1, .inl g)) sp dp i = vp_cell (G.2.2 0) (n1, .inl (va_cpy f g sp.toNatClampNeg dp.toNatClampNeg i.toNatClampNeg)) := va_copied (fun z => .int z) _ _ f g h4
  rw [e1] at X' step
  have hla : a < H.size := (Array.getElem?_eq_some_iff.mp hc1).1
  have hheap : ((T.setVm vm').setCell a (vp_cell (G.2.2 0) (n1, .inl (va_cpy f g sp.toNatClampNeg dp.toNatClampNeg i.toNatClampNeg)))).heap = H.setIfInBounds a (vp_cell (G.2.2 0) (n1, .inl (va_cpy f g sp.toNatClampNeg dp.toNatClampNeg i.toNatClampNeg))) := by rw [← hT]; rfl
  have oq : ∀ q : Nat, q ≠ a → (H.setIfInBounds a (vp_cell (G.2.2 0) (n1, .inl (va_cpy f g sp.toNatClampNeg dp.toNatClampNeg i.toNatClampNeg))))[q]? = H[q]? := fun q hq => by simp [Array.getElem?_setIfInBounds, Ne.symm hq]
  obtain ⟨t, a1, b1⟩ := kk _ hf _ _ ls (okc.puts hok g1 rfl (cAt_arr' (by decide) (show (H.setIfInBounds a _)[a]? = some _ by simp [Array.getElem?_setIfInBounds, hla])) (by simp) oq (fun q hq => by
      obtain ⟨y, -, hy⟩ := List.mem_map.mp hq
      rw [← hy])) hl _ hheap X'
  exact ⟨t, step t a1, b1⟩
end VMORE
end
section
/-! THE LAYER V: what ArrayList's own code needs: copies of arrays of references (kind aO), their class objects, casts to Object[] -/
section VJDK
variable {C : xC} {cc : ByteArray} {nL : Nat} {own : String} {Ts : List Cond} {w : cW} {k n pc : Nat} {lv : List (Nat × Value)} {st : List Value} {β : Type} {z : β}
def cpQ (w : cW) (rs : Option Nat) (sp : Int32) (rd : Option Nat) (dp i : Int32) : Option cW := (cArr w rs).bind fun q => (cArr w rd).bind fun u => match q.2.2.2 with
  | .inr (.inr (.inr (.inr f))) => match u.2.2.2 with
    | .inr (.inr (.inr (.inr g))) => if q.2.1 = aO ∧ u.2.1 = aO ∧ ¬ sp < 0 ∧ ¬ dp < 0 ∧ ¬ i < 0 ∧ sp.toNatClampNeg + i.toNatClampNeg ≤ q.2.2.1 ∧ dp.toNatClampNeg + i.toNatClampNeg ≤ u.2.2.1 ∧ (List.range i.toNatClampNeg).all (fun j => qOk w aO (f (sp.toNatClampNeg + j))) = true then some (va_up w.1 u.1 (some (.inl (aO, u.2.2.1, .inr (.inr (.inr (.inr (va_cpy f g sp.toNatClampNeg dp.toNatClampNeg i.toNatClampNeg))))))), w.2) else none
    | _ => none
  | _ => none
theorem cpQ_of {w w' : cW} {rs rd : Option Nat} {sp dp i : Int32} (h : cpQ w rs sp rd dp i = some w') : ∃ a0 a n0 n1 f g, rs = some a0 ∧ rd = some a ∧ w.1 a0 = some (.inl (aO, n0, .inr (.inr (.inr (.inr f))))) ∧ w.1 a = some (.inl (aO, n1, .inr (.inr (.inr (.inr g))))) ∧ ¬ sp < 0 ∧ ¬ dp < 0 ∧ ¬ i < 0 ∧ sp.toNatClampNeg + i.toNatClampNeg ≤ n0 ∧ dp.toNatClampNeg + i.toNatClampNeg ≤ n1 ∧ (∀ j, j < i.toNatClampNeg → qOk w aO (f (sp.toNatClampNeg + j)) = true) ∧ w' = (va_up w.1 a (some (.inl (aO, n1, .inr (.inr (.inr (.inr (va_cpy f g sp.toNatClampNeg dp.toNatClampNeg i.toNatClampNeg))))))), w.2) := by
  obtain ⟨⟨a0, t0, n0, y0⟩, h0, hz⟩ := ob h
  obtain ⟨⟨a1, t1, n1, y1⟩, h1, hy⟩ := ob hz
  obtain ⟨rfl, g0⟩ := cArr_of h0
  obtain ⟨rfl, g1⟩ := cArr_of h1
  rcases y0 with f | f | f | f | f
  · cases hy
  · cases hy
  · cases hy
  · cases hy
  · rcases y1 with g | g | g | g | g
    · cases hy
    · cases hy
    · cases hy
    · cases hy
    · try dsimp only at hy
      by_cases hc : t0 = aO ∧ t1 = aO ∧ ¬ sp < 0 ∧ ¬ dp < 0 ∧ ¬ i < 0 ∧ sp.toNatClampNeg + i.toNatClampNeg ≤ n0 ∧ dp.toNatClampNeg + i.toNatClampNeg ≤ n1 ∧ (List.range i.toNatClampNeg).all (fun j => qOk w aO (f (sp.toNatClampNeg + j))) = true
      · rw [if_pos hc] at hy
        obtain ⟨rfl, rfl, c1, c2, c3, c4, c5, c6⟩ := hc
        cases hy
        exact ⟨a0, a1, n0, n1, f, g, rfl, rfl, g0, g1, c1, c2, c3, c4, c5, fun j hj => List.all_eq_true.mp c6 j (List.mem_range.mpr hj), rfl⟩
      · rw [if_neg hc] at hy
        cases hy
theorem v_copyQ {index : Nat} {rs rd : Option Nat} {sp dp i : Int32} {F : cW → Option β} (hC : okC C cc nL own lw_gd) (hAs : cAs C.2.2.2.2.1) (hd : decode cc pc = .ok (.invokestatic index, 3)) (hlk : Cond.methodLink own index arraycopyName ∈ lw_gd) (hnat : Cond.native arraycopyName ∈ lw_gd) (hstat : Cond.static arraycopyName ∈ lw_gd) (hini : Cond.initialized "java/lang/System" ∈ lw_gd) (hR : 1 ≤ (xR C).frames ∧ 8 + (nativeFrameWords "java/lang/System" "arraycopy" 5 + 11) ≤ (xR C).locals) (hst : (st.map fun v => v.category).sum ≤ 8) (hf : (cpQ w rs sp rd dp i).bind F = some z) (kk : ∀ w', F w' = some z → V C w' k n (pc + 3) lv st) : V C w k n pc lv (.int i :: .int dp :: va_rf rd :: .int sp :: va_rf rs :: st) := by
  have hK := hC.K
  obtain ⟨p, l, e, R, s, m, args, below, meth, c, Q, nL, G, w0⟩ := C
  obtain ⟨w', hp, hf⟩ := ob hf
  obtain ⟨a0, a, n0, n1, f, g, rfl, rfl, g0, g1, h1, h2, h3, h4, h5, h6, rfl⟩ := cpQ_of hp
  intro H locs ls hok hl T hT X
  have hts := hC.2.2.2.2.2.1
  dsimp only [xR] at hR
  have hc0 : H[a0]? = some (vp_cell (G.2.2 aO) (n0, .inr (.inr (.inr (.inr f))))) := cAt_arr (by decide) (hok.2.1 a0 _ g0)
  have hc1 : H[a]? = some (vp_cell (G.2.2 aO) (n1, .inr (.inr (.inr (.inr g))))) := cAt_arr (by decide) (hok.2.1 a _ g1)
  obtain ⟨-, k0, hk0, cm0, hkk0⟩ := (hK.2.1 aO (by decide)).1 n0 (fun j => va_rf (f j))
  obtain ⟨-, k1, hk1, cm1, hkk1⟩ := (hK.2.1 aO (by decide)).1 n1 (fun j => va_rf (g j))
  have hRA := (hK.2.1 aO (by decide)).2
  obtain ⟨vm', X', step⟩ := X.arraycopy hC.1 hC.2.2.2.2.1 (hts _ hlk) (hts _ hnat) (hts _ hstat) (hts _ hini) (src := a0) (dst := a) (cs := vp_cell (G.2.2 aO) (n0, .inr (.inr (.inr (.inr f))))) (cd := vp_cell (G.2.2 aO) (n1, .inr (.inr (.inr (.inr g))))) (srcPos := sp) (destPos := dp) (n := i) (by rw [hT]; exact hc0) (by rw [hT]; exact hc1)
    (fun _ h => by cases h) (fun _ h => by cases h) (fun h => by cases h) (fun h => by cases h) hk0 hk1 hkk0 hkk1 rfl h1 h2 h3
    (by rw [nn_clamp sp h1, nn_clamp i h3]; show ¬ _ > ((arrV _ n0 (fun j => va_rf (f j))).slots.size : Int); rw [arrV_size]; omega)
    (by rw [nn_clamp dp h2, nn_clamp i h3]; show ¬ _ > ((arrV _ n1 (fun j => va_rf (g j))).slots.size : Int); rw [arrV_size]; omega)
    (fun vm₁ hal j hj => by
      have e : (vp_cell (G.2.2 aO) (n0, .inr (.inr (.inr (.inr f))))).slots.getD (sp.toNatClampNeg + j) .null = va_rf (f (sp.toNatClampNeg + j)) := by
        show (arrV _ n0 (fun j => va_rf (f j))).slots.getD _ _ = _
        rw [Array.getD_eq_getD_getElem?, arrV_read _ _ (by omega)]
        rfl
      rw [e]
      have h6 := h6 j hj
      cases hy : f (sp.toNatClampNeg + j) with
      | none => exact ⟨rfl, trivial⟩
      | some y =>
        rw [hy] at h6
        unfold qOk at h6
        dsimp only at h6
        cases hv : w.1 y with
        | none => rw [hv] at h6; cases h6
        | some x =>
          rw [hv] at h6
          rcases x with x | ⟨ci, fs⟩
          · cases h6
          · dsimp only at h6
            obtain ⟨q, hq, cellV, q1, q2, q3, -⟩ := hok.2.1 y _ hv
            have hcl := (hK.1.1 ci q hq).2
            have hfc : s.vm.findClass q.1 = some cellV.cls := by rw [q2]; exact hcl.1
            obtain ⟨kC, hkC, -⟩ := Vm.findClass_spec hfc
            obtain ⟨kA, comp, r1, r2, r3, -⟩ := hRA
            cases hk1.symm.trans r1
            cases hkk1.symm.trans r2
            obtain ⟨kE, hkE, -⟩ := Vm.findClass_spec r3
            obtain ⟨kC', hkC', -⟩ := hal.2.2 _ _ hkC
            obtain ⟨kE', hkE', -⟩ := hal.2.2 _ _ hkE
            refine ⟨rfl, cellV, (show T.heap[y]? = some cellV by rw [hT]; exact q1), (fun q h => by rw [q3] at h; cases h), ⟨kC', hkC'⟩, ?_, ?_⟩
            · exact ⟨kE', hkE'⟩
            · show vm₁.assignable _ _ = true
              rw [hal.assignable]
              exact hAs aO ci q _ h6 rfl hq _ _ r3 hfc)
    (g := F0 m pc ls (.int i :: .int dp :: .ref a :: .int sp :: .ref a0 :: st)) rfl (by show ls.size = _; rw [hl.1, hC.2.2.1]) (rest := st) rfl (by rw [hC.2.1]; exact hd) hR.1 (by show 2 * 0 + _ + _ ≤ _; omega)
  have e1 : copied (vp_cell (G.2.2 aO) (n0, .inr (.inr (.inr (.inr f))))) (vp_cell (G.2.2 aO) (n1, .inr (.inr (.inr (.inr g))))) sp dp i = vp_cell (G.2.2 aO) (n1, .inr (.inr (.inr (.inr (va_cpy f g sp.toNatClampNeg dp.toNatClampNeg i.toNatClampNeg))))) := by
    rw [vp_cell_q, vp_cell_q, vp_cell_q]
    exact va_copied (fun z => va_rf z) _ _ f g h4
  rw [e1] at X' step
  have hla : a < H.size := (Array.getElem?_eq_some_iff.mp hc1).1
  have hheap : ((T.setVm vm').setCell a (vp_cell (G.2.2 aO) (n1, .inr (.inr (.inr (.inr (va_cpy f g sp.toNatClampNeg dp.toNatClampNeg i.toNatClampNeg))))))).heap = H.setIfInBounds a (vp_cell (G.2.2 aO) (n1, .inr (.inr (.inr (.inr (va_cpy f g sp.toNatClampNeg dp.toNatClampNeg i.toNatClampNeg)))))) := by rw [← hT]; rfl
  have oq : ∀ q : Nat, q ≠ a → (H.setIfInBounds a (vp_cell (G.2.2 aO) (n1, .inr (.inr (.inr (.inr (va_cpy f g sp.toNatClampNeg dp.toNatClampNeg i.toNatClampNeg)))))))[q]? = H[q]? := fun q hq => by simp [Array.getElem?_setIfInBounds, Ne.symm hq]
  obtain ⟨t, a1, b1⟩ := kk _ hf _ _ ls (okc.puts hok g1 rfl (cAt_arr' (by decide) (show (H.setIfInBounds a _)[a]? = some _ by simp [Array.getElem?_setIfInBounds, hla])) (by simp) oq (fun q hq => by
      obtain ⟨y, -, hy⟩ := List.mem_map.mp hq
      rw [← hy])) hl _ hheap X'
  exact ⟨t, step t a1, b1⟩
/-- an array of kind aO, whose class object is asked, or that is cast to Object[] -/
def cGC (w : cW) (r : Option Nat) : Option Unit := (cArr w r).bind fun q => if q.2.1 = aO then some () else none
theorem cGC_of {w : cW} {r : Option Nat} (h : cGC w r = some ()) : ∃ a x, r = some a ∧ w.1 a = some (.inl (aO, x)) := by
  obtain ⟨⟨a, t, x⟩, h0, hy⟩ := ob h
  obtain ⟨rfl, g0⟩ := cArr_of h0
  try dsimp only at hy
  by_cases ht : t = aO
  · subst ht
    exact ⟨a, x, rfl, g0⟩
  · rw [if_neg ht] at hy
    cases hy
theorem aO_cls {G : cG} {s : State} (hK : cK G s) : s.vm.findClass mC = some (G.2.2 aO) := by
  obtain ⟨_, _, _, _, _, h⟩ := (hK.2.1 aO (by decide)).2
  exact h
theorem v_castA {index : Nat} {r : Option Nat} {F : Unit → Option β} (hC : okC C cc nL own lw_gd) (hd : decode cc pc = .ok (.checkcast index, 3)) (hcl : Cond.classLink own index mC ∈ lw_gd) (hf : (cGC w r).bind F = some z) (kk : F () = some z → V C w k n (pc + 3) lv (va_rf r :: st)) : V C w k n pc lv (va_rf r :: st) := by
  have hK := hC.K
  obtain ⟨p, l, e, R, s, m, args, below, meth, c, Q, nL, G, w0⟩ := C
  obtain ⟨⟨⟩, hx, hf1⟩ := ob hf
  obtain ⟨a, x, rfl, ha⟩ := cGC_of hx
  intro H locs ls hok hl
  exact va_castA (D := G.2.1) (cl := vwCl) hC.1 hC.2.1 hC.2.2.2.2.1 (hC.2.2.2.2.2.1 _ hcl) (va_P1 (q := (a, .inl (G.2.2 aO, x))) (cAt_arr (by decide) (hok.2.1 a _ ha))) 0 rfl (aO_cls hK) hd (kk hf1 H locs ls hok hl)
abbrev yGC : MethodName := ⟨"java/lang/Object", "getClass", "()Ljava/lang/Class;"⟩
theorem v_getC {index : Nat} {r : Option Nat} {F : Unit → Option β} (hC : okC C cc nL own lw_gd) (hd : decode cc pc = .ok (.invokevirtual index, 3)) (hlk : Cond.methodLink own index yGC ∈ lw_gd) (hnat : Cond.native yGC ∈ lw_gd) (hinst : Cond.instanceMethod yGC ∈ lw_gd) (hsel : Cond.selects mC yGC yGC ∈ lw_ex ∨ Cond.selects mC yGC yGC ∈ lw_gd) (hdc : Cond.declares yGC ∈ lw_ex ∨ Cond.declares yGC ∈ lw_gd) (hR : 1 ≤ (xR C).frames ∧ 22 ≤ (xR C).locals) (hst : (st.map fun v => v.category).sum ≤ 8) (hf : (cGC w r).bind F = some z) (kk : F () = some z → V C w k n (pc + 3) lv (va_rf (some w.2.2.2) :: st)) : V C w k n pc lv (va_rf r :: st) := by
  have hK := hC.K
  obtain ⟨p, l, e, R, s, m, args, below, meth, c, Q, nL, G, w0⟩ := C
  obtain ⟨⟨⟩, hx, hf1⟩ := ob hf
  obtain ⟨a, x, rfl, ha⟩ := cGC_of hx
  intro H locs ls hok hl
  have hts := hC.2.2.2.2.2.1
  have h0 := hC.2.2.2.2.2.2.1
  dsimp only [xR] at hR
  have hk2 := kk hf1 H locs ls hok hl
  rw [hok.2.2.2.2] at hk2
  have hs2 : (Cond.selects mC yGC yGC).before args s = true := by
    rcases hsel with h | h
    · exact va_Nw.use rfl (hK.2.2 _ h)
    · exact hts _ h
  have hs3 : (Cond.declares yGC).before args s = true := by
    rcases hdc with h | h
    · exact va_Nw.use rfl (hK.2.2 _ h)
    · exact hts _ h
  have hc1 := cAt_arr (x := x) (t := aO) (by decide) (hok.2.1 a _ ha)
  have hvm0 : (vp_cell (G.2.2 aO) x).vm = .none := by
    obtain ⟨n, f | f | f | f | f⟩ := x <;> rfl
  have hcl0 : (vp_cell (G.2.2 aO) x).cls = G.2.2 aO := by
    obtain ⟨n, f | f | f | f | f⟩ := x <;> rfl
  exact va_getC hC.1 hC.2.1 (by rw [hC.2.2.1]; exact hl.1.symm) hC.2.2.2.2.1 (hts _ hlk) hs3 hs2 (hts _ hinst) (hts _ hnat) h0.2.1.2 ⟨_, hc1, by rw [hvm0]; rfl, by rw [hcl0]; exact aO_cls hK⟩ hR.1 (by omega) hd hk2
end VJDK
end
section
/-! PURE ROWS: what the functions over worlds answer when the cells are known -/
theorem bnd_eq {α β : Type} (x : α) (f : α → β) : bnd x f = f x := rfl
theorem bnd_ob {α β : Type} {x : α} {f : α → Option β} {r : β} (h : bnd x f = some r) : ∃ y, y = x ∧ f y = some r := ⟨x, rfl, h⟩
theorem cbd_some {α β γ : Type} (a : α) (b : β) (f : α → β → Option γ) : cbd (some (a, b)) f = f a b := rfl
theorem cbd_of {α β γ : Type} {o : Option (α × β)} {a : α} {b : β} {f : α → β → Option γ} (h : o = some (a, b)) : cbd o f = f a b := by rw [h]; rfl
theorem ob_of {α β : Type} {o : Option α} {a : α} {f : α → Option β} (h : o = some a) : o.bind f = f a := by rw [h]; rfl
theorem gI_in {w : cW} {a ci k : Nat} {fs : List Value} {x : Int32} (h : w.1 a = some (.inr (ci, fs))) (hk : fs[k]? = some (.int x)) : gI w (some a) ci k = some x := by
  simp [gI, cObj_in h, hk, asI]
theorem gQ_in {w : cW} {a ci k : Nat} {fs : List Value} {r : Option Nat} (h : w.1 a = some (.inr (ci, fs))) (hk : fs[k]? = some (va_rf r)) : gQ w (some a) ci k = some r := by
  cases r <;> simp [gQ, cObj_in h, hk, asQ, va_rf]
theorem pF_in {w : cW} {a ci k : Nat} {fs : List Value} {v : Value} (h : w.1 a = some (.inr (ci, fs))) (hk : k < fs.length) : pF w (some a) ci k v = some (va_up w.1 a (some (.inr (ci, fs.set k v))), w.2) := by
  simp [pF, cObj_in h, hk]
theorem pI_in {w : cW} {a ci k : Nat} {fs : List Value} {x : Int32} (h : w.1 a = some (.inr (ci, fs))) (hk : k < fs.length) : pI w (some a) ci k x = some (va_up w.1 a (some (.inr (ci, fs.set k (.int x)))), w.2) := pF_in h hk
theorem pQ_in {w : cW} {a ci k : Nat} {fs : List Value} {x : Option Nat} (h : w.1 a = some (.inr (ci, fs))) (hk : k < fs.length) : pQ w (some a) ci k x = some (va_up w.1 a (some (.inr (ci, fs.set k (va_rf x)))), w.2) := pF_in h hk
theorem pZ_in {w : cW} {a ci k : Nat} {fs : List Value} {x : Int32} (h : w.1 a = some (.inr (ci, fs))) (hk : k < fs.length) (hx : x = 0 ∨ x = 1) : pZ w (some a) ci k x = some (va_up w.1 a (some (.inr (ci, fs.set k (.int x)))), w.2) := by
  unfold pZ
  rw [if_pos hx]
  exact pF_in h hk
theorem cArr_in {w : cW} {a : Nat} {x : Nat × vp_A} (h : w.1 a = some (.inl x)) : cArr w (some a) = some (a, x) := by
  simp [cArr, h]
theorem ldI_in {w : cW} {a t N j : Nat} {f : Nat → Int32} {ty : FieldType} {i : Int32} (h : w.1 a = some (.inl (t, N, .inl f))) (ht : t < aN) (hty : aTy t = ty) (hi : i = nI j) (hj : j < N) (hN : N < 2 ^ 31) : ldI w (some a) ty i = some (f j) := by
  subst hi
  have e : (nI j).toNatClampNeg = j := nI_clamp (by omega)
  have hin : ¬ (nI j < 0 ∨ N ≤ (nI j).toNatClampNeg) := nI_in hj hN
  unfold ldI
  rw [ob_of (cArr_in h)]
  dsimp only
  rw [if_pos ⟨ht, hty, hin⟩, e]
theorem stI_in {w : cW} {a t N j : Nat} {f : Nat → Int32} {ty : FieldType} {i x : Int32} (h : w.1 a = some (.inl (t, N, .inl f))) (hr : t < aRO) (ht : t < aN) (hty : aTy t = ty) (hi : i = nI j) (hj : j < N) (hN : N < 2 ^ 31) : stI w (some a) ty i x = some (va_up w.1 a (some (.inl (t, N, .inl (upd f j (vp_nar ty x))))), w.2) := by
  subst hi
  have e : (nI j).toNatClampNeg = j := nI_clamp (by omega)
  have hin : ¬ (nI j < 0 ∨ N ≤ (nI j).toNatClampNeg) := nI_in hj hN
  unfold stI
  rw [ob_of (cArr_in h)]
  dsimp only
  rw [if_pos ⟨hr, ht, hty, hin⟩, e]
theorem aLen_in {w : cW} {a t N : Nat} {y : (Nat → Int32) ⊕ (Nat → Int64) ⊕ (Nat → UInt32) ⊕ (Nat → UInt64) ⊕ (Nat → Option Nat)} (h : w.1 a = some (.inl (t, N, y))) (ht : t < aN) : aLen w (some a) = some (nI N) := by
  simp [aLen, cArr_in h, ht, nI]
theorem cRcv_in {w : cW} {a ci : Nat} {fs : List Value} (h : w.1 a = some (.inr (ci, fs))) : cRcv w (some a) ci = some a := by
  simp [cRcv, cObj_in h]
theorem cCast_in {w : cW} {a ci : Nat} {fs : List Value} (h : w.1 a = some (.inr (ci, fs))) : cCast w (some a) ci = some () := by
  simp [cCast, cObj_in h]
/-- a callee that sees a part of the world alone -/
def rst (S : Nat → Bool) (w : cW) : cW := (fun a => if S a = true then w.1 a else none, w.2)
def mrg (S : Nat → Bool) (w w1 : cW) : cW := (fun a => if S a = true ∨ w.2.1 ≤ a then w1.1 a else w.1 a, w1.2)
def cFr {α : Type} (S : Nat → Bool) (f : cW → Option (α × cW)) (w : cW) : Option (α × cW) := (f (rst S w)).map fun q => (q.1, mrg S w q.2)
theorem cFr_of {α : Type} {S : Nat → Bool} {f : cW → Option (α × cW)} {w w' : cW} {r : α} (h : cFr S f w = some (r, w')) : ∃ w1, f (rst S w) = some (r, w1) ∧ w' = mrg S w w1 := by
  obtain ⟨⟨a, w1⟩, h1, h2⟩ := Option.map_eq_some_iff.mp h
  cases h2
  exact ⟨w1, h1, rfl⟩
theorem cFr_in {α : Type} {S : Nat → Bool} {f : cW → Option (α × cW)} {w w1 : cW} {r : α} (h : f (rst S w) = some (r, w1)) : cFr S f w = some (r, mrg S w w1) := by
  unfold cFr
  rw [h]
  rfl
/-- behind a call that saw a part of the world alone -/
theorem okc_backF {α : Type} {mk : α → Option Value} {S : Nat → Bool} {G : cG} {s st₀ t T' : State} {w0 w w1 : cW} {H : Heap} {locs L : List Loc} {a : Array Value} {r : α} {o : Outcome} (h0 : okw G w0 s) (h : okc G s w0 w H locs) (hst : st₀.heap = H) (hq : mQ mk G (rst S w) w1 r a st₀ o t) (e1 : T'.heap = t.heap) (e2 : T'.vm = t.vm) (hW : s.vm.Alike T'.vm) (hL : ∀ q ∈ L, Aw (rst S w) q.base) : okc G s w0 (mrg S w w1) T'.heap (locs ++ L) := by
  obtain ⟨-, g1, g2, g3, g4, g5⟩ := hq
  have hS := h.2.2.2.1
  have hal : t.vm.Alike s.vm := by rw [← e2]; exact hW.symm
  have hz : H.size ≤ T'.heap.size := by rw [e1, ← hst]; exact g5.1
  have hAr : ∀ q, Aw (rst S w) q → Aw w q := by
    rintro q (⟨e, h1, h2⟩ | h1)
    · refine Or.inl ⟨e, ?_, h2⟩
      have h1 : (if S q = true then w.1 q else none) = some e := h1
      by_cases c : S q = true
      · rw [if_pos c] at h1; exact h1
      · rw [if_neg c] at h1; cases h1
    · exact Or.inr h1
  have hm : ∀ b e, (mrg S w w1).1 b = some e → ((S b = true ∨ w.2.1 ≤ b) ∧ w1.1 b = some e) ∨ (¬ (S b = true ∨ w.2.1 ≤ b) ∧ w.1 b = some e) := by
    intro b e hb
    have hb : (if S b = true ∨ w.2.1 ≤ b then w1.1 b else w.1 b) = some e := hb
    by_cases c : S b = true ∨ w.2.1 ≤ b
    · rw [if_pos c] at hb; exact Or.inl ⟨c, hb⟩
    · rw [if_neg c] at hb; exact Or.inr ⟨c, hb⟩
  refine ⟨by rw [e1]; exact g1.2.2.1, fun b e hb => ?_, fun b e hb he => ?_, ⟨Nat.le_trans hS.1 hz, fun q q1 q2 => ?_, fun q hq => ?_⟩, by show w1.2.2 = _; rw [g4]; exact h.2.2.2.2⟩
  · rcases hm b e hb with ⟨-, hb⟩ | ⟨c, hb⟩
    · rw [e1]
      exact (g1.2.2.2.1 b e hb).moved hal
    · have hlt : b < H.size := (h.2.1 b e hb).lt
      refine (h.2.1 b e hb).kept ?_
      rw [e1, ← hst]
      refine g5.2 b (by rw [hst]; exact hlt) ?_
      rintro (⟨x, h1, -⟩ | h1)
      · have h1 : (if S b = true then w.1 b else none) = some x := h1
        rw [if_neg (fun z => c (Or.inl z))] at h1
        cases h1
      · exact c (Or.inr h1)
  · rcases hm b e hb with ⟨-, hb⟩ | ⟨c, hb⟩
    · exact ⟨g1.2.2.2.2.2 b e hb he, Aw_mono h0 h (hAr b (g2 b e hb he))⟩
    · exact h.2.2.1 b e hb he
  · rw [e1, g5.2 q (by rw [hst]; exact Nat.lt_of_lt_of_le q1 hS.1) (fun c => q2 (Aw_mono h0 h (hAr q c))), hst]
    exact hS.2.1 q q1 q2
  · rcases List.mem_append.mp hq with c | c
    · exact hS.2.2 q c
    · exact Aw_mono h0 h (hAr _ (hL q c))
theorem okw_rst {G : cG} {w : cW} {U : State} (S : Nat → Bool) (h : okw G w U) : okw G (rst S w) U := by
  obtain ⟨h1, h2, h3, h4, h5, h6⟩ := h
  have hs : ∀ b e, (rst S w).1 b = some e → w.1 b = some e := by
    intro b e hb
    have hb : (if S b = true then w.1 b else none) = some e := hb
    by_cases c : S b = true
    · rw [if_pos c] at hb; exact hb
    · rw [if_neg c] at hb; cases hb
  exact ⟨h1, h2, h3, fun b e hb => h4 b e (hs b e hb), h5, fun b e hb he => h6 b e (hs b e hb) he⟩
section VFR
variable {C : xC} {cc : ByteArray} {nL : Nat} {own : String} {Ts : List Cond} {w : cW} {k n pc : Nat} {lv : List (Nat × Value)} {st : List Value} {β : Type} {z : β}
theorem v_callVF {α : Type} {mk : α → Option Value} {S : Nat → Bool} {y : MethodName} {rm : Room} {bytes : ByteArray} {maxL index ci N k' n' : Nat} {ret : Option FieldType} {CN : String} {T : u_T} {As rest : List Value} {r : Option Nat} {f : Nat → cW → Option (α × cW)} {F : α → cW → Option β} (hC : okC C cc nL own lw_gd) (hd : decode cc pc = .ok (.invokevirtual index, 3))
    (hlk : Cond.methodLink own index y ∈ lw_gd) (hin : Cond.instanceMethod y ∈ lw_gd) (hse : Cond.selects CN y y ∈ lw_gd) (hini : Cond.initialized y.cls ∈ lw_gd) (hcd : Cond.code y bytes maxL ret ∈ lw_gd) {nA : Nat} (hy : yOk y nA) (hna : As.length = nA)
    (hc : vwCl[ci]? = some (CN, T, N)) (hM : ∀ b w r' w', f b w = some (r', w') → Met (xl C) y (wsM y bytes maxL ret) rm (mP (xg C) w (.ref b :: As)) (mQ mk (xg C) w w' r') rm.cells rm.slots (Aw w))
    (hR : rm.frames + 1 ≤ (xR C).frames ∧ 8 + (maxL + 11) + rm.locals ≤ (xR C).locals) (hst : (rest.map fun v => v.category).sum ≤ 8) (hk' : k + rm.cells ≤ k' ∧ n + rm.slots ≤ n') (hkn : k' ≤ (xR C).cells ∧ n' ≤ (xR C).slots)
    (hf : (cRcv w r ci).bind (fun b => cbd (cFr S (f b) w) F) = some z) {st0 : List Value} {st1 : α → List Value} (hs0 : st0 = As.reverse ++ va_rf r :: rest) (hs1 : ∀ x, (mk x).toList ++ rest = st1 x) (kk : ∀ r' w', F r' w' = some z → V C w' k' n' (pc + 3) lv (st1 r')) : V C w k n pc lv st0 := by
  subst hs0
  have hy : yOk y As.length := by rw [hna]; exact hy
  obtain ⟨b, hb, hf1⟩ := ob hf
  obtain ⟨r', w', hfb0, hf2⟩ := obc hf1
  obtain ⟨w1, hfb, rfl⟩ := cFr_of hfb0
  obtain ⟨rfl, fs, hbw⟩ := cRcv_of hb
  have hK := hC.K
  have hkk := kk r' _ hf2
  have hm := hM b _ r' w1 hfb
  obtain ⟨p, l, e, R, s, m, args, below, meth, c, Q, nL, G, w0⟩ := C
  intro H locs ls hok hl
  have hKn := hK.1.1 ci _ hc
  have hts := hC.2.2.2.2.2.1
  have hr := va_runV hC.fix hm ⟨callB_of As.length hts (wsM_in hcd) rfl rfl rfl (hts _ hini) (hts _ hlk) hy hR, hts _ hin, hts _ hse⟩ ⟨mP_blind _ _ _, va_recv (q0 := 0) hK.1 (va_P1 (q := (b, .inr (ci, fs))) (hok.2.1 b _ hbw)) hc rfl, fun U hU hW => ⟨rfl, okw_rst S (okw_call hC.2.2.2.2.2.2.1 hok hU hW)⟩⟩ (e := e) (below := below) (meth := meth) (locs := locs) (cells := k) (slots := n) (g := F0 m pc ls (As.reverse ++ .ref b :: rest)) (rest := rest) rfl rfl hl.1 rfl (lv_room hst) hd ⟨Nat.le_trans hk'.1 hkn.1, Nat.le_trans hk'.2 hkn.2⟩
  intro T hT X
  obtain ⟨v, st₀, t, T', L, h0, X', hL, e1, e2, hq, st⟩ := hr T hT X
  have hv : v = mk r' := by have := hq.1; cases this; rfl
  subst hv
  have hkk := V.widen (C := (p, l, e, R, s, m, args, below, meth, c, Q, nL, G, w0)) hk'.1 hk'.2 hkk
  rw [← hs1] at hkk
  obtain ⟨t2, a1, b1⟩ := hkk T'.heap (locs ++ L) ls (okc_backF hC.2.2.2.2.2.2.1 hok h0 hq e1 e2 X'.warmed.alike hL) hl T' rfl X'
  exact ⟨t2, st t2 a1, b1⟩
end VFR
end
section
set_option maxRecDepth 100000 in
theorem inN : ∀ x ∈ u_ws "ArenaNetwork" TN 6, x ∈ lw_gd := by
  intro x hx
  obtain ⟨k, hk, rfl⟩ := List.mem_map.mp hx
  have hk := List.mem_range.mp hk
  rcases (show k = 0 ∨ k = 1 ∨ k = 2 ∨ k = 3 ∨ k = 4 ∨ k = 5 by omega) with rfl | rfl | rfl | rfl | rfl | rfl
  · exact tin 125 rfl
  · exact tin 127 rfl
  · exact tin 129 rfl
  · exact tin 131 rfl
  · exact tin 133 rfl
  · exact tin 135 rfl
set_option maxRecDepth 100000 in
theorem inA : ∀ x ∈ u_ws "ArenaNetwork$Arena" TA 2, x ∈ lw_gd := by
  intro x hx
  obtain ⟨k, hk, rfl⟩ := List.mem_map.mp hx
  have hk := List.mem_range.mp hk
  rcases (show k = 0 ∨ k = 1 by omega) with rfl | rfl
  · exact tin 99 rfl
  · exact tin 101 rfl
set_option maxRecDepth 100000 in
theorem inO : ∀ x ∈ u_ws "ArenaNetwork$Operator" TO 5, x ∈ lw_gd := by
  intro x hx
  obtain ⟨k, hk, rfl⟩ := List.mem_map.mp hx
  have hk := List.mem_range.mp hk
  rcases (show k = 0 ∨ k = 1 ∨ k = 2 ∨ k = 3 ∨ k = 4 by omega) with rfl | rfl | rfl | rfl | rfl
  · exact tin 318 rfl
  · exact tin 320 rfl
  · exact tin 322 rfl
  · exact tin 324 rfl
  · exact tin 326 rfl
set_option maxRecDepth 100000 in
theorem inS : ∀ x ∈ u_ws "ArenaNetwork$Scale" TS 2, x ∈ lw_gd := by
  intro x hx
  obtain ⟨k, hk, rfl⟩ := List.mem_map.mp hx
  have hk := List.mem_range.mp hk
  rcases (show k = 0 ∨ k = 1 by omega) with rfl | rfl
  · exact tin 114 rfl
  · exact tin 116 rfl
set_option maxRecDepth 100000 in
theorem inT : ∀ x ∈ u_ws "ArenaNetwork$Tensor" TT 11, x ∈ lw_gd := by
  intro x hx
  obtain ⟨k, hk, rfl⟩ := List.mem_map.mp hx
  have hk := List.mem_range.mp hk
  rcases (show k = 0 ∨ k = 1 ∨ k = 2 ∨ k = 3 ∨ k = 4 ∨ k = 5 ∨ k = 6 ∨ k = 7 ∨ k = 8 ∨ k = 9 ∨ k = 10 by omega) with rfl | rfl | rfl | rfl | rfl | rfl | rfl | rfl | rfl | rfl | rfl
  · exact tin 188 rfl
  · exact tin 190 rfl
  · exact tin 192 rfl
  · exact tin 194 rfl
  · exact tin 196 rfl
  · exact tin 198 rfl
  · exact tin 200 rfl
  · exact tin 202 rfl
  · exact tin 204 rfl
  · exact tin 206 rfl
  · exact tin 208 rfl
set_option maxRecDepth 100000 in
theorem inM : ∀ x ∈ u_ws "ArenaNetworkModel" TM 19, x ∈ lw_gd := by
  intro x hx
  obtain ⟨k, hk, rfl⟩ := List.mem_map.mp hx
  have hk := List.mem_range.mp hk
  rcases (show k = 0 ∨ k = 1 ∨ k = 2 ∨ k = 3 ∨ k = 4 ∨ k = 5 ∨ k = 6 ∨ k = 7 ∨ k = 8 ∨ k = 9 ∨ k = 10 ∨ k = 11 ∨ k = 12 ∨ k = 13 ∨ k = 14 ∨ k = 15 ∨ k = 16 ∨ k = 17 ∨ k = 18 by omega) with rfl | rfl | rfl | rfl | rfl | rfl | rfl | rfl | rfl | rfl | rfl | rfl | rfl | rfl | rfl | rfl | rfl | rfl | rfl
  · exact tin 529 rfl
  · exact tin 531 rfl
  · exact tin 533 rfl
  · exact tin 535 rfl
  · exact tin 537 rfl
  · exact tin 539 rfl
  · exact tin 541 rfl
  · exact tin 543 rfl
  · exact tin 545 rfl
  · exact tin 547 rfl
  · exact tin 549 rfl
  · exact tin 551 rfl
  · exact tin 553 rfl
  · exact tin 555 rfl
  · exact tin 557 rfl
  · exact tin 559 rfl
  · exact tin 561 rfl
  · exact tin 563 rfl
  · exact tin 565 rfl
set_option maxRecDepth 100000 in
theorem inL : ∀ x ∈ u_ws "java/util/ArrayList" TL 3, x ∈ lw_gd := by
  intro x hx
  obtain ⟨k, hk, rfl⟩ := List.mem_map.mp hx
  have hk := List.mem_range.mp hk
  rcases (show k = 0 ∨ k = 1 ∨ k = 2 by omega) with rfl | rfl | rfl
  · exact tin 78 rfl
  · exact tin 80 rfl
  · exact tin 82 rfl
set_option maxRecDepth 100000 in
theorem q1 : (Jvm.Cond.initialized "ArenaNetwork") ∈ lw_gd := tin 36 rfl
set_option maxRecDepth 100000 in
theorem q2 : (Jvm.Cond.initialized "java/util/AbstractCollection") ∈ lw_gd := tin 37 rfl
set_option maxRecDepth 100000 in
theorem q3 : (Jvm.Cond.initialized "java/util/AbstractList") ∈ lw_gd := tin 38 rfl
set_option maxRecDepth 100000 in
theorem q4 : (Jvm.Cond.initialized "java/util/ArrayList") ∈ lw_gd := tin 39 rfl
set_option maxRecDepth 100000 in
theorem q5 : (Jvm.Cond.initialized "ArenaNetwork$Arena") ∈ lw_gd := tin 40 rfl
set_option maxRecDepth 100000 in
theorem q6 : (Jvm.Cond.initialized "ArenaNetwork$Scale") ∈ lw_gd := tin 41 rfl
set_option maxRecDepth 100000 in
theorem q7 : (Jvm.Cond.initialized "ArenaNetworkModel") ∈ lw_gd := tin 42 rfl
set_option maxRecDepth 100000 in
theorem q8 : (Jvm.Cond.initialized "ArenaNetwork$Tensor") ∈ lw_gd := tin 43 rfl
set_option maxRecDepth 100000 in
theorem q9 : (Jvm.Cond.initialized "jdk/internal/util/ArraysSupport") ∈ lw_gd := tin 44 rfl
set_option maxRecDepth 100000 in
theorem q10 : (Jvm.Cond.initialized "java/lang/Math") ∈ lw_gd := tin 45 rfl
set_option maxRecDepth 100000 in
theorem q11 : (Jvm.Cond.initialized "java/util/Arrays") ∈ lw_gd := tin 46 rfl
set_option maxRecDepth 100000 in
theorem q12 : (Jvm.Cond.initialized "java/lang/System") ∈ lw_gd := tin 47 rfl
set_option maxRecDepth 100000 in
theorem q13 : (Jvm.Cond.initialized "java/util/Objects") ∈ lw_gd := tin 48 rfl
set_option maxRecDepth 100000 in
theorem q14 : (Jvm.Cond.initialized "jdk/internal/util/Preconditions") ∈ lw_gd := tin 49 rfl
set_option maxRecDepth 100000 in
theorem q15 : (Jvm.Cond.initialized "ArenaNetwork$Operator") ∈ lw_gd := tin 50 rfl
set_option maxRecDepth 100000 in
theorem q17 : (Jvm.Cond.instantiable "ArenaNetwork" (6 : Nat)) ∈ lw_gd := tin 52 rfl
set_option maxRecDepth 100000 in
theorem q21 : (Jvm.Cond.methodLink "ArenaNetwork" (1 : Nat) ({ cls := "java/lang/Object", name := "<init>", desc := "()V" } : Jvm.MethodName)) ∈ lw_gd := tin 56 rfl
set_option maxRecDepth 100000 in
theorem q22 : (Jvm.Cond.instanceMethod ({ cls := "java/lang/Object", name := "<init>", desc := "()V" } : Jvm.MethodName)) ∈ lw_gd := tin 57 rfl
set_option maxRecDepth 100000 in
theorem q23 : (Jvm.Cond.code ({ cls := "java/lang/Object", name := "<init>", desc := "()V" } : Jvm.MethodName) object_method_1_code (1 : Nat) (Option.none : Option Jvm.ClassFile.FieldType)) ∈ lw_gd := tin 58 rfl
set_option maxRecDepth 100000 in
theorem q24 : (Jvm.Cond.classLink "ArenaNetwork" (7 : Nat) "java/util/ArrayList") ∈ lw_gd := tin 59 rfl
set_option maxRecDepth 100000 in
theorem q25 : (Jvm.Cond.instantiable "java/util/ArrayList" (3 : Nat)) ∈ lw_gd := tin 60 rfl
set_option maxRecDepth 100000 in
theorem q26 : (Jvm.Cond.methodLink "ArenaNetwork" (9 : Nat) ({ cls := "java/util/ArrayList", name := "<init>", desc := "()V" } : Jvm.MethodName)) ∈ lw_gd := tin 61 rfl
set_option maxRecDepth 100000 in
theorem q27 : (Jvm.Cond.instanceMethod ({ cls := "java/util/ArrayList", name := "<init>", desc := "()V" } : Jvm.MethodName)) ∈ lw_gd := tin 62 rfl
set_option maxRecDepth 100000 in
theorem q28 : (Jvm.Cond.code ({ cls := "java/util/ArrayList", name := "<init>", desc := "()V" } : Jvm.MethodName) prog_15_method_2_code (1 : Nat) (Option.none : Option Jvm.ClassFile.FieldType)) ∈ lw_gd := tin 63 rfl
set_option maxRecDepth 100000 in
theorem q29 : (Jvm.Cond.methodLink "java/util/ArrayList" (1 : Nat) ({ cls := "java/util/AbstractList", name := "<init>", desc := "()V" } : Jvm.MethodName)) ∈ lw_gd := tin 64 rfl
set_option maxRecDepth 100000 in
theorem q30 : (Jvm.Cond.instanceMethod ({ cls := "java/util/AbstractList", name := "<init>", desc := "()V" } : Jvm.MethodName)) ∈ lw_gd := tin 65 rfl
set_option maxRecDepth 100000 in
theorem q31 : (Jvm.Cond.code ({ cls := "java/util/AbstractList", name := "<init>", desc := "()V" } : Jvm.MethodName) prog_14_method_1_code (1 : Nat) (Option.none : Option Jvm.ClassFile.FieldType)) ∈ lw_gd := tin 66 rfl
set_option maxRecDepth 100000 in
theorem q32 : (Jvm.Cond.methodLink "java/util/AbstractList" (1 : Nat) ({ cls := "java/util/AbstractCollection", name := "<init>", desc := "()V" } : Jvm.MethodName)) ∈ lw_gd := tin 67 rfl
set_option maxRecDepth 100000 in
theorem q33 : (Jvm.Cond.instanceMethod ({ cls := "java/util/AbstractCollection", name := "<init>", desc := "()V" } : Jvm.MethodName)) ∈ lw_gd := tin 68 rfl
set_option maxRecDepth 100000 in
theorem q34 : (Jvm.Cond.code ({ cls := "java/util/AbstractCollection", name := "<init>", desc := "()V" } : Jvm.MethodName) prog_13_method_1_code (1 : Nat) (Option.none : Option Jvm.ClassFile.FieldType)) ∈ lw_gd := tin 69 rfl
set_option maxRecDepth 100000 in
theorem q35 : (Jvm.Cond.methodLink "java/util/AbstractCollection" (1 : Nat) ({ cls := "java/lang/Object", name := "<init>", desc := "()V" } : Jvm.MethodName)) ∈ lw_gd := tin 70 rfl
set_option maxRecDepth 100000 in
theorem q36 : (Jvm.Cond.fieldLink "java/util/ArrayList" (39 : Nat) "java/util/ArrayList" "DEFAULTCAPACITY_EMPTY_ELEMENTDATA" "[Ljava/lang/Object;") ∈ lw_gd := tin 71 rfl
set_option maxRecDepth 100000 in
theorem q38 : (Jvm.Cond.fieldLink "java/util/ArrayList" (9 : Nat) "java/util/ArrayList" "elementData" "[Ljava/lang/Object;") ∈ lw_gd := tin 73 rfl
set_option maxRecDepth 100000 in
theorem q39 : (Jvm.Cond.fieldLink "java/util/ArrayList" (48 : Nat) "java/util/ArrayList" "size" "I") ∈ lw_gd := tin 74 rfl
set_option maxRecDepth 100000 in
theorem q40 : (Jvm.Cond.fieldLink "java/util/AbstractList" (7 : Nat) "java/util/AbstractList" "modCount" "I") ∈ lw_gd := tin 75 rfl
set_option maxRecDepth 100000 in
theorem q41 : (Jvm.Cond.fieldLink "java/util/ArrayList" (63 : Nat) "java/util/ArrayList" "modCount" "I") ∈ lw_gd := tin 76 rfl
set_option maxRecDepth 100000 in
theorem q42 : (Jvm.Cond.sameField "java/util/ArrayList" "java/util/AbstractList" "modCount" "I") ∈ lw_gd := tin 77 rfl
set_option maxRecDepth 100000 in
theorem q50 : (Jvm.Cond.classLink "ArenaNetwork" (19 : Nat) "ArenaNetwork$Scale") ∈ lw_gd := tin 85 rfl
set_option maxRecDepth 100000 in
theorem q52 : (Jvm.Cond.classLink "ArenaNetwork" (25 : Nat) "ArenaNetwork$Arena") ∈ lw_gd := tin 87 rfl
set_option maxRecDepth 100000 in
theorem q53 : (Jvm.Cond.instantiable "ArenaNetwork$Arena" (2 : Nat)) ∈ lw_gd := tin 88 rfl
set_option maxRecDepth 100000 in
theorem q55 : (Jvm.Cond.instanceMethod ({ cls := "ArenaNetwork$Arena", name := "<init>", desc := "()V" } : Jvm.MethodName)) ∈ lw_gd := tin 90 rfl
set_option maxRecDepth 100000 in
theorem q56 : (Jvm.Cond.code ({ cls := "ArenaNetwork$Arena", name := "<init>", desc := "()V" } : Jvm.MethodName) prog_2_method_1_code (1 : Nat) (Option.none : Option Jvm.ClassFile.FieldType)) ∈ lw_gd := tin 91 rfl
set_option maxRecDepth 100000 in
theorem q57 : (Jvm.Cond.methodLink "ArenaNetwork$Arena" (5 : Nat) ({ cls := "java/lang/Object", name := "<init>", desc := "()V" } : Jvm.MethodName)) ∈ lw_gd := tin 92 rfl
set_option maxRecDepth 100000 in
theorem q58 : (Jvm.Cond.classLink "ArenaNetwork$Arena" (11 : Nat) "java/util/ArrayList") ∈ lw_gd := tin 93 rfl
set_option maxRecDepth 100000 in
theorem q59 : (Jvm.Cond.methodLink "ArenaNetwork$Arena" (13 : Nat) ({ cls := "java/util/ArrayList", name := "<init>", desc := "()V" } : Jvm.MethodName)) ∈ lw_gd := tin 94 rfl
set_option maxRecDepth 100000 in
theorem q60 : (Jvm.Cond.fieldLink "ArenaNetwork$Arena" (14 : Nat) "ArenaNetwork$Arena" "order" "Ljava/util/ArrayList;") ∈ lw_gd := tin 95 rfl
set_option maxRecDepth 100000 in
theorem q61 : (Jvm.Cond.fieldLink "ArenaNetwork" (138 : Nat) "ArenaNetwork$Arena" "order" "Ljava/util/ArrayList;") ∈ lw_gd := tin 96 rfl
set_option maxRecDepth 100000 in
theorem q62 : (Jvm.Cond.fieldLink "ArenaNetwork$Arena" (20 : Nat) "ArenaNetwork$Arena" "length" "I") ∈ lw_gd := tin 97 rfl
set_option maxRecDepth 100000 in
theorem q63 : (Jvm.Cond.fieldLink "ArenaNetwork" (107 : Nat) "ArenaNetwork$Arena" "length" "I") ∈ lw_gd := tin 98 rfl
set_option maxRecDepth 100000 in
theorem q69 : (Jvm.Cond.instantiable "ArenaNetwork$Scale" (2 : Nat)) ∈ lw_gd := tin 104 rfl
set_option maxRecDepth 100000 in
theorem q71 : (Jvm.Cond.instanceMethod ({ cls := "ArenaNetwork$Scale", name := "<init>", desc := "()V" } : Jvm.MethodName)) ∈ lw_gd := tin 106 rfl
set_option maxRecDepth 100000 in
theorem q72 : (Jvm.Cond.code ({ cls := "ArenaNetwork$Scale", name := "<init>", desc := "()V" } : Jvm.MethodName) prog_4_method_1_code (1 : Nat) (Option.none : Option Jvm.ClassFile.FieldType)) ∈ lw_gd := tin 107 rfl
set_option maxRecDepth 100000 in
theorem q73 : (Jvm.Cond.methodLink "ArenaNetwork$Scale" (1 : Nat) ({ cls := "java/lang/Object", name := "<init>", desc := "()V" } : Jvm.MethodName)) ∈ lw_gd := tin 108 rfl
set_option maxRecDepth 100000 in
theorem q74 : (Jvm.Cond.constant "ArenaNetwork$Scale" (7 : Nat) (1073741824 : Int32)) ∈ lw_gd := tin 109 rfl
set_option maxRecDepth 100000 in
theorem q75 : (Jvm.Cond.fieldLink "ArenaNetwork$Scale" (8 : Nat) "ArenaNetwork$Scale" "multiplier" "I") ∈ lw_gd := tin 110 rfl
set_option maxRecDepth 100000 in
theorem q76 : (Jvm.Cond.fieldLink "ArenaNetwork" (83 : Nat) "ArenaNetwork$Scale" "multiplier" "I") ∈ lw_gd := tin 111 rfl
set_option maxRecDepth 100000 in
theorem q77 : (Jvm.Cond.fieldLink "ArenaNetwork$Scale" (14 : Nat) "ArenaNetwork$Scale" "shift" "I") ∈ lw_gd := tin 112 rfl
set_option maxRecDepth 100000 in
theorem q78 : (Jvm.Cond.fieldLink "ArenaNetwork" (86 : Nat) "ArenaNetwork$Scale" "shift" "I") ∈ lw_gd := tin 113 rfl
set_option maxRecDepth 100000 in
theorem q84 : (Jvm.Cond.fieldLink "ArenaNetwork" (10 : Nat) "ArenaNetwork" "tensors" "Ljava/util/ArrayList;") ∈ lw_gd := tin 119 rfl
set_option maxRecDepth 100000 in
theorem q85 : (Jvm.Cond.fieldLink "ArenaNetwork" (16 : Nat) "ArenaNetwork" "operators" "Ljava/util/ArrayList;") ∈ lw_gd := tin 120 rfl
set_option maxRecDepth 100000 in
theorem q86 : (Jvm.Cond.fieldLink "ArenaNetwork" (21 : Nat) "ArenaNetwork" "scales" "[LArenaNetwork$Scale;") ∈ lw_gd := tin 121 rfl
set_option maxRecDepth 100000 in
theorem q87 : (Jvm.Cond.fieldLink "ArenaNetwork" (28 : Nat) "ArenaNetwork" "arena" "LArenaNetwork$Arena;") ∈ lw_gd := tin 122 rfl
set_option maxRecDepth 100000 in
theorem q88 : (Jvm.Cond.fieldLink "ArenaNetwork" (32 : Nat) "ArenaNetwork" "prepared" "Z") ∈ lw_gd := tin 123 rfl
set_option maxRecDepth 100000 in
theorem q89 : (Jvm.Cond.fieldLink "ArenaNetwork" (36 : Nat) "ArenaNetwork" "done" "I") ∈ lw_gd := tin 124 rfl
set_option maxRecDepth 100000 in
theorem q107 : (Jvm.Cond.methodLink "ArenaNetwork" (43 : Nat) ({ cls := "ArenaNetwork", name := "isWithin", desc := "(III)Z" } : Jvm.MethodName)) ∈ lw_gd := tin 142 rfl
set_option maxRecDepth 100000 in
theorem q108 : (Jvm.Cond.static ({ cls := "ArenaNetwork", name := "isWithin", desc := "(III)Z" } : Jvm.MethodName)) ∈ lw_gd := tin 143 rfl
set_option maxRecDepth 100000 in
theorem q109 : (Jvm.Cond.code ({ cls := "ArenaNetwork", name := "isWithin", desc := "(III)Z" } : Jvm.MethodName) prog_1_method_27_code (3 : Nat) (Option.some Jvm.ClassFile.FieldType.boolean)) ∈ lw_gd := tin 144 rfl
set_option maxRecDepth 100000 in
theorem q110 : (Jvm.Cond.methodLink "ArenaNetwork" (47 : Nat) ({ cls := "ArenaNetwork$Tensor", name := "greatestLength", desc := "(I)I" } : Jvm.MethodName)) ∈ lw_gd := tin 145 rfl
set_option maxRecDepth 100000 in
theorem q111 : (Jvm.Cond.static ({ cls := "ArenaNetwork$Tensor", name := "greatestLength", desc := "(I)I" } : Jvm.MethodName)) ∈ lw_gd := tin 146 rfl
set_option maxRecDepth 100000 in
theorem q112 : (Jvm.Cond.code ({ cls := "ArenaNetwork$Tensor", name := "greatestLength", desc := "(I)I" } : Jvm.MethodName) prog_5_method_2_code (1 : Nat) (Option.some Jvm.ClassFile.FieldType.int)) ∈ lw_gd := tin 147 rfl
set_option maxRecDepth 100000 in
theorem q113 : (Jvm.Cond.methodLink "ArenaNetwork" (51 : Nat) ({ cls := "ArenaNetwork", name := "isCellValue", desc := "(I)Z" } : Jvm.MethodName)) ∈ lw_gd := tin 148 rfl
set_option maxRecDepth 100000 in
theorem q114 : (Jvm.Cond.static ({ cls := "ArenaNetwork", name := "isCellValue", desc := "(I)Z" } : Jvm.MethodName)) ∈ lw_gd := tin 149 rfl
set_option maxRecDepth 100000 in
theorem q115 : (Jvm.Cond.code ({ cls := "ArenaNetwork", name := "isCellValue", desc := "(I)Z" } : Jvm.MethodName) prog_1_method_26_code (1 : Nat) (Option.some Jvm.ClassFile.FieldType.boolean)) ∈ lw_gd := tin 150 rfl
set_option maxRecDepth 100000 in
theorem q116 : (Jvm.Cond.methodLink "ArenaNetwork" (55 : Nat) ({ cls := "java/util/ArrayList", name := "size", desc := "()I" } : Jvm.MethodName)) ∈ lw_gd := tin 151 rfl
set_option maxRecDepth 100000 in
theorem q117 : (Jvm.Cond.instanceMethod ({ cls := "java/util/ArrayList", name := "size", desc := "()I" } : Jvm.MethodName)) ∈ lw_gd := tin 152 rfl
set_option maxRecDepth 100000 in
theorem q118 : (Jvm.Cond.selects "java/util/ArrayList" ({ cls := "java/util/ArrayList", name := "size", desc := "()I" } : Jvm.MethodName) ({ cls := "java/util/ArrayList", name := "size", desc := "()I" } : Jvm.MethodName)) ∈ lw_gd := tin 153 rfl
set_option maxRecDepth 100000 in
theorem q119 : (Jvm.Cond.code ({ cls := "java/util/ArrayList", name := "size", desc := "()I" } : Jvm.MethodName) prog_15_method_8_code (1 : Nat) (Option.some Jvm.ClassFile.FieldType.int)) ∈ lw_gd := tin 154 rfl
set_option maxRecDepth 100000 in
theorem q120 : (Jvm.Cond.classLink "ArenaNetwork" (41 : Nat) "ArenaNetwork$Tensor") ∈ lw_gd := tin 155 rfl
set_option maxRecDepth 100000 in
theorem q121 : (Jvm.Cond.instantiable "ArenaNetwork$Tensor" (11 : Nat)) ∈ lw_gd := tin 156 rfl
set_option maxRecDepth 100000 in
theorem q122 : (Jvm.Cond.methodLink "ArenaNetwork" (59 : Nat) ({ cls := "ArenaNetwork$Tensor", name := "<init>", desc := "(IIII)V" } : Jvm.MethodName)) ∈ lw_gd := tin 157 rfl
set_option maxRecDepth 100000 in
theorem q123 : (Jvm.Cond.instanceMethod ({ cls := "ArenaNetwork$Tensor", name := "<init>", desc := "(IIII)V" } : Jvm.MethodName)) ∈ lw_gd := tin 158 rfl
set_option maxRecDepth 100000 in
theorem q124 : (Jvm.Cond.code ({ cls := "ArenaNetwork$Tensor", name := "<init>", desc := "(IIII)V" } : Jvm.MethodName) prog_5_method_1_code (5 : Nat) (Option.none : Option Jvm.ClassFile.FieldType)) ∈ lw_gd := tin 159 rfl
set_option maxRecDepth 100000 in
theorem q125 : (Jvm.Cond.methodLink "ArenaNetwork$Tensor" (1 : Nat) ({ cls := "java/lang/Object", name := "<init>", desc := "()V" } : Jvm.MethodName)) ∈ lw_gd := tin 160 rfl
set_option maxRecDepth 100000 in
theorem q126 : (Jvm.Cond.fieldLink "ArenaNetwork$Tensor" (26 : Nat) "ArenaNetwork$Tensor" "number" "I") ∈ lw_gd := tin 161 rfl
set_option maxRecDepth 100000 in
theorem q127 : (Jvm.Cond.fieldLink "ArenaNetwork" (141 : Nat) "ArenaNetwork$Tensor" "number" "I") ∈ lw_gd := tin 162 rfl
set_option maxRecDepth 100000 in
theorem q128 : (Jvm.Cond.fieldLink "ArenaNetwork$Tensor" (29 : Nat) "ArenaNetwork$Tensor" "kind" "I") ∈ lw_gd := tin 163 rfl
set_option maxRecDepth 100000 in
theorem q129 : (Jvm.Cond.fieldLink "ArenaNetwork$Operator" (28 : Nat) "ArenaNetwork$Tensor" "kind" "I") ∈ lw_gd := tin 164 rfl
set_option maxRecDepth 100000 in
theorem q130 : (Jvm.Cond.fieldLink "ArenaNetwork" (70 : Nat) "ArenaNetwork$Tensor" "kind" "I") ∈ lw_gd := tin 165 rfl
set_option maxRecDepth 100000 in
theorem q131 : (Jvm.Cond.fieldLink "ArenaNetwork$Tensor" (32 : Nat) "ArenaNetwork$Tensor" "length" "I") ∈ lw_gd := tin 166 rfl
set_option maxRecDepth 100000 in
theorem q132 : (Jvm.Cond.fieldLink "ArenaNetwork$Arena" (39 : Nat) "ArenaNetwork$Tensor" "length" "I") ∈ lw_gd := tin 167 rfl
set_option maxRecDepth 100000 in
theorem q133 : (Jvm.Cond.fieldLink "ArenaNetwork$Operator" (31 : Nat) "ArenaNetwork$Tensor" "length" "I") ∈ lw_gd := tin 168 rfl
set_option maxRecDepth 100000 in
theorem q134 : (Jvm.Cond.fieldLink "ArenaNetwork$Tensor" (35 : Nat) "ArenaNetwork$Tensor" "zero" "I") ∈ lw_gd := tin 169 rfl
set_option maxRecDepth 100000 in
theorem q135 : (Jvm.Cond.fieldLink "ArenaNetwork$Operator" (38 : Nat) "ArenaNetwork$Tensor" "zero" "I") ∈ lw_gd := tin 170 rfl
set_option maxRecDepth 100000 in
theorem q136 : (Jvm.Cond.fieldLink "ArenaNetwork$Tensor" (38 : Nat) "ArenaNetwork$Tensor" "given" "[I") ∈ lw_gd := tin 171 rfl
set_option maxRecDepth 100000 in
theorem q137 : (Jvm.Cond.fieldLink "ArenaNetwork" (76 : Nat) "ArenaNetwork$Tensor" "given" "[I") ∈ lw_gd := tin 172 rfl
set_option maxRecDepth 100000 in
theorem q138 : (Jvm.Cond.fieldLink "ArenaNetwork$Tensor" (42 : Nat) "ArenaNetwork$Tensor" "cells" "[I") ∈ lw_gd := tin 173 rfl
set_option maxRecDepth 100000 in
theorem q139 : (Jvm.Cond.fieldLink "ArenaNetwork$Operator" (41 : Nat) "ArenaNetwork$Tensor" "cells" "[I") ∈ lw_gd := tin 174 rfl
set_option maxRecDepth 100000 in
theorem q140 : (Jvm.Cond.fieldLink "ArenaNetwork" (123 : Nat) "ArenaNetwork$Tensor" "cells" "[I") ∈ lw_gd := tin 175 rfl
set_option maxRecDepth 100000 in
theorem q141 : (Jvm.Cond.fieldLink "ArenaNetwork$Tensor" (7 : Nat) "ArenaNetwork$Tensor" "kept" "Z") ∈ lw_gd := tin 176 rfl
set_option maxRecDepth 100000 in
theorem q142 : (Jvm.Cond.fieldLink "ArenaNetwork" (94 : Nat) "ArenaNetwork$Tensor" "kept" "Z") ∈ lw_gd := tin 177 rfl
set_option maxRecDepth 100000 in
theorem q143 : (Jvm.Cond.fieldLink "ArenaNetwork$Tensor" (13 : Nat) "ArenaNetwork$Tensor" "hasLife" "Z") ∈ lw_gd := tin 178 rfl
set_option maxRecDepth 100000 in
theorem q144 : (Jvm.Cond.fieldLink "ArenaNetwork$Arena" (35 : Nat) "ArenaNetwork$Tensor" "hasLife" "Z") ∈ lw_gd := tin 179 rfl
set_option maxRecDepth 100000 in
theorem q145 : (Jvm.Cond.fieldLink "ArenaNetwork" (153 : Nat) "ArenaNetwork$Tensor" "hasLife" "Z") ∈ lw_gd := tin 180 rfl
set_option maxRecDepth 100000 in
theorem q146 : (Jvm.Cond.fieldLink "ArenaNetwork$Tensor" (16 : Nat) "ArenaNetwork$Tensor" "begin" "I") ∈ lw_gd := tin 181 rfl
set_option maxRecDepth 100000 in
theorem q147 : (Jvm.Cond.fieldLink "ArenaNetwork" (135 : Nat) "ArenaNetwork$Tensor" "begin" "I") ∈ lw_gd := tin 182 rfl
set_option maxRecDepth 100000 in
theorem q148 : (Jvm.Cond.fieldLink "ArenaNetwork$Tensor" (20 : Nat) "ArenaNetwork$Tensor" "end" "I") ∈ lw_gd := tin 183 rfl
set_option maxRecDepth 100000 in
theorem q149 : (Jvm.Cond.fieldLink "ArenaNetwork" (132 : Nat) "ArenaNetwork$Tensor" "end" "I") ∈ lw_gd := tin 184 rfl
set_option maxRecDepth 100000 in
theorem q150 : (Jvm.Cond.fieldLink "ArenaNetwork$Tensor" (23 : Nat) "ArenaNetwork$Tensor" "place" "I") ∈ lw_gd := tin 185 rfl
set_option maxRecDepth 100000 in
theorem q151 : (Jvm.Cond.fieldLink "ArenaNetwork$Arena" (48 : Nat) "ArenaNetwork$Tensor" "place" "I") ∈ lw_gd := tin 186 rfl
set_option maxRecDepth 100000 in
theorem q152 : (Jvm.Cond.fieldLink "ArenaNetwork" (129 : Nat) "ArenaNetwork$Tensor" "place" "I") ∈ lw_gd := tin 187 rfl
set_option maxRecDepth 100000 in
theorem q176 : (Jvm.Cond.arrayClass Jvm.ClassFile.FieldType.int) ∈ lw_gd := tin 211 rfl
set_option maxRecDepth 100000 in
theorem q177 : (Jvm.Cond.methodLink "ArenaNetwork" (62 : Nat) ({ cls := "java/util/ArrayList", name := "add", desc := "(Ljava/lang/Object;)Z" } : Jvm.MethodName)) ∈ lw_gd := tin 212 rfl
set_option maxRecDepth 100000 in
theorem q178 : (Jvm.Cond.instanceMethod ({ cls := "java/util/ArrayList", name := "add", desc := "(Ljava/lang/Object;)Z" } : Jvm.MethodName)) ∈ lw_gd := tin 213 rfl
set_option maxRecDepth 100000 in
theorem q179 : (Jvm.Cond.selects "java/util/ArrayList" ({ cls := "java/util/ArrayList", name := "add", desc := "(Ljava/lang/Object;)Z" } : Jvm.MethodName) ({ cls := "java/util/ArrayList", name := "add", desc := "(Ljava/lang/Object;)Z" } : Jvm.MethodName)) ∈ lw_gd := tin 214 rfl
set_option maxRecDepth 100000 in
theorem q180 : (Jvm.Cond.code ({ cls := "java/util/ArrayList", name := "add", desc := "(Ljava/lang/Object;)Z" } : Jvm.MethodName) prog_15_method_25_code (2 : Nat) (Option.some Jvm.ClassFile.FieldType.boolean)) ∈ lw_gd := tin 215 rfl
set_option maxRecDepth 100000 in
theorem q181 : (Jvm.Cond.methodLink "java/util/ArrayList" (131 : Nat) ({ cls := "java/util/ArrayList", name := "add", desc := "(Ljava/lang/Object;[Ljava/lang/Object;I)V" } : Jvm.MethodName)) ∈ lw_gd := tin 216 rfl
set_option maxRecDepth 100000 in
theorem q183 : (Jvm.Cond.instanceMethod ({ cls := "java/util/ArrayList", name := "add", desc := "(Ljava/lang/Object;[Ljava/lang/Object;I)V" } : Jvm.MethodName)) ∈ lw_gd := tin 218 rfl
set_option maxRecDepth 100000 in
theorem q184 : (Jvm.Cond.code ({ cls := "java/util/ArrayList", name := "add", desc := "(Ljava/lang/Object;[Ljava/lang/Object;I)V" } : Jvm.MethodName) prog_15_method_24_code (4 : Nat) (Option.none : Option Jvm.ClassFile.FieldType)) ∈ lw_gd := tin 219 rfl
set_option maxRecDepth 100000 in
theorem q185 : (Jvm.Cond.methodLink "java/util/ArrayList" (129 : Nat) ({ cls := "java/util/ArrayList", name := "grow", desc := "()[Ljava/lang/Object;" } : Jvm.MethodName)) ∈ lw_gd := tin 220 rfl
set_option maxRecDepth 100000 in
theorem q187 : (Jvm.Cond.instanceMethod ({ cls := "java/util/ArrayList", name := "grow", desc := "()[Ljava/lang/Object;" } : Jvm.MethodName)) ∈ lw_gd := tin 222 rfl
set_option maxRecDepth 100000 in
theorem q188 : (Jvm.Cond.code ({ cls := "java/util/ArrayList", name := "grow", desc := "()[Ljava/lang/Object;" } : Jvm.MethodName) prog_15_method_7_code (1 : Nat) (Option.some (Jvm.ClassFile.FieldType.array (Jvm.ClassFile.FieldType.object "java/lang/Object")))) ∈ lw_gd := tin 223 rfl
set_option maxRecDepth 100000 in
theorem q189 : (Jvm.Cond.methodLink "java/util/ArrayList" (69 : Nat) ({ cls := "java/util/ArrayList", name := "grow", desc := "(I)[Ljava/lang/Object;" } : Jvm.MethodName)) ∈ lw_gd := tin 224 rfl
set_option maxRecDepth 100000 in
theorem q191 : (Jvm.Cond.instanceMethod ({ cls := "java/util/ArrayList", name := "grow", desc := "(I)[Ljava/lang/Object;" } : Jvm.MethodName)) ∈ lw_gd := tin 226 rfl
set_option maxRecDepth 100000 in
theorem q192 : (Jvm.Cond.code ({ cls := "java/util/ArrayList", name := "grow", desc := "(I)[Ljava/lang/Object;" } : Jvm.MethodName) prog_15_method_6_code (4 : Nat) (Option.some (Jvm.ClassFile.FieldType.array (Jvm.ClassFile.FieldType.object "java/lang/Object")))) ∈ lw_gd := tin 227 rfl
set_option maxRecDepth 100000 in
theorem q193 : (Jvm.Cond.methodLink "java/util/ArrayList" (73 : Nat) ({ cls := "jdk/internal/util/ArraysSupport", name := "newLength", desc := "(III)I" } : Jvm.MethodName)) ∈ lw_gd := tin 228 rfl
set_option maxRecDepth 100000 in
theorem q194 : (Jvm.Cond.static ({ cls := "jdk/internal/util/ArraysSupport", name := "newLength", desc := "(III)I" } : Jvm.MethodName)) ∈ lw_gd := tin 229 rfl
set_option maxRecDepth 100000 in
theorem q195 : (Jvm.Cond.code ({ cls := "jdk/internal/util/ArraysSupport", name := "newLength", desc := "(III)I" } : Jvm.MethodName) prog_22_method_27_code (4 : Nat) (Option.some Jvm.ClassFile.FieldType.int)) ∈ lw_gd := tin 230 rfl
set_option maxRecDepth 100000 in
theorem q196 : (Jvm.Cond.methodLink "jdk/internal/util/ArraysSupport" (194 : Nat) ({ cls := "java/lang/Math", name := "max", desc := "(II)I" } : Jvm.MethodName)) ∈ lw_gd := tin 231 rfl
set_option maxRecDepth 100000 in
theorem q197 : (Jvm.Cond.static ({ cls := "java/lang/Math", name := "max", desc := "(II)I" } : Jvm.MethodName)) ∈ lw_gd := tin 232 rfl
set_option maxRecDepth 100000 in
theorem q198 : (Jvm.Cond.code ({ cls := "java/lang/Math", name := "max", desc := "(II)I" } : Jvm.MethodName) prog_11_method_65_code (2 : Nat) (Option.some Jvm.ClassFile.FieldType.int)) ∈ lw_gd := tin 233 rfl
set_option maxRecDepth 100000 in
theorem q199 : (Jvm.Cond.constant "jdk/internal/util/ArraysSupport" (200 : Nat) (2147483639 : Int32)) ∈ lw_gd := tin 234 rfl
set_option maxRecDepth 100000 in
theorem q203 : (Jvm.Cond.methodLink "java/util/ArrayList" (66 : Nat) ({ cls := "java/util/Arrays", name := "copyOf", desc := "([Ljava/lang/Object;I)[Ljava/lang/Object;" } : Jvm.MethodName)) ∈ lw_gd := tin 238 rfl
set_option maxRecDepth 100000 in
theorem q204 : (Jvm.Cond.static ({ cls := "java/util/Arrays", name := "copyOf", desc := "([Ljava/lang/Object;I)[Ljava/lang/Object;" } : Jvm.MethodName)) ∈ lw_gd := tin 239 rfl
set_option maxRecDepth 100000 in
theorem q205 : (Jvm.Cond.code ({ cls := "java/util/Arrays", name := "copyOf", desc := "([Ljava/lang/Object;I)[Ljava/lang/Object;" } : Jvm.MethodName) prog_16_method_119_code (2 : Nat) (Option.some (Jvm.ClassFile.FieldType.array (Jvm.ClassFile.FieldType.object "java/lang/Object")))) ∈ lw_gd := tin 240 rfl
set_option maxRecDepth 100000 in
theorem q206 : (Jvm.Cond.methodLink "java/util/Arrays" (86 : Nat) ({ cls := "java/lang/Object", name := "getClass", desc := "()Ljava/lang/Class;" } : Jvm.MethodName)) ∈ lw_gd := tin 241 rfl
set_option maxRecDepth 100000 in
theorem q207 : (Jvm.Cond.instanceMethod ({ cls := "java/lang/Object", name := "getClass", desc := "()Ljava/lang/Class;" } : Jvm.MethodName)) ∈ lw_gd := tin 242 rfl
set_option maxRecDepth 100000 in
theorem q216 : (Jvm.Cond.native ({ cls := "java/lang/Object", name := "getClass", desc := "()Ljava/lang/Class;" } : Jvm.MethodName)) ∈ lw_gd := tin 251 rfl
set_option maxRecDepth 100000 in
theorem q217 : (Jvm.Cond.methodLink "java/util/Arrays" (300 : Nat) ({ cls := "java/util/Arrays", name := "copyOf", desc := "([Ljava/lang/Object;ILjava/lang/Class;)[Ljava/lang/Object;" } : Jvm.MethodName)) ∈ lw_gd := tin 252 rfl
set_option maxRecDepth 100000 in
theorem q218 : (Jvm.Cond.static ({ cls := "java/util/Arrays", name := "copyOf", desc := "([Ljava/lang/Object;ILjava/lang/Class;)[Ljava/lang/Object;" } : Jvm.MethodName)) ∈ lw_gd := tin 253 rfl
set_option maxRecDepth 100000 in
theorem q219 : (Jvm.Cond.code ({ cls := "java/util/Arrays", name := "copyOf", desc := "([Ljava/lang/Object;ILjava/lang/Class;)[Ljava/lang/Object;" } : Jvm.MethodName) prog_16_method_120_code (4 : Nat) (Option.some (Jvm.ClassFile.FieldType.array (Jvm.ClassFile.FieldType.object "java/lang/Object")))) ∈ lw_gd := tin 254 rfl
set_option maxRecDepth 100000 in
theorem q220 : (Jvm.Cond.classLink "java/util/Arrays" (110 : Nat) "[Ljava/lang/Object;") ∈ lw_gd := tin 255 rfl
set_option maxRecDepth 100000 in
theorem q222 : (Jvm.Cond.classLink "java/util/Arrays" (2 : Nat) "java/lang/Object") ∈ lw_gd := tin 257 rfl
set_option maxRecDepth 100000 in
theorem q223 : (Jvm.Cond.methodLink "java/util/Arrays" (304 : Nat) ({ cls := "java/lang/Math", name := "min", desc := "(II)I" } : Jvm.MethodName)) ∈ lw_gd := tin 258 rfl
set_option maxRecDepth 100000 in
theorem q224 : (Jvm.Cond.static ({ cls := "java/lang/Math", name := "min", desc := "(II)I" } : Jvm.MethodName)) ∈ lw_gd := tin 259 rfl
set_option maxRecDepth 100000 in
theorem q225 : (Jvm.Cond.code ({ cls := "java/lang/Math", name := "min", desc := "(II)I" } : Jvm.MethodName) prog_11_method_69_code (2 : Nat) (Option.some Jvm.ClassFile.FieldType.int)) ∈ lw_gd := tin 260 rfl
set_option maxRecDepth 100000 in
theorem q226 : (Jvm.Cond.methodLink "java/util/Arrays" (150 : Nat) ({ cls := "java/lang/System", name := "arraycopy", desc := "(Ljava/lang/Object;ILjava/lang/Object;II)V" } : Jvm.MethodName)) ∈ lw_gd := tin 261 rfl
set_option maxRecDepth 100000 in
theorem q227 : (Jvm.Cond.static ({ cls := "java/lang/System", name := "arraycopy", desc := "(Ljava/lang/Object;ILjava/lang/Object;II)V" } : Jvm.MethodName)) ∈ lw_gd := tin 262 rfl
set_option maxRecDepth 100000 in
theorem q228 : (Jvm.Cond.native ({ cls := "java/lang/System", name := "arraycopy", desc := "(Ljava/lang/Object;ILjava/lang/Object;II)V" } : Jvm.MethodName)) ∈ lw_gd := tin 263 rfl
set_option maxRecDepth 100000 in
theorem q229 : (Jvm.Cond.methodLink "java/util/ArrayList" (79 : Nat) ({ cls := "java/lang/Math", name := "max", desc := "(II)I" } : Jvm.MethodName)) ∈ lw_gd := tin 264 rfl
set_option maxRecDepth 100000 in
theorem q230 : (Jvm.Cond.classLink "java/util/ArrayList" (7 : Nat) "java/lang/Object") ∈ lw_gd := tin 265 rfl
set_option maxRecDepth 100000 in
theorem q235 : (Jvm.Cond.methodLink "ArenaNetwork" (66 : Nat) ({ cls := "ArenaNetwork", name := "tensorAt", desc := "(I)LArenaNetwork$Tensor;" } : Jvm.MethodName)) ∈ lw_gd := tin 270 rfl
set_option maxRecDepth 100000 in
theorem q237 : (Jvm.Cond.instanceMethod ({ cls := "ArenaNetwork", name := "tensorAt", desc := "(I)LArenaNetwork$Tensor;" } : Jvm.MethodName)) ∈ lw_gd := tin 272 rfl
set_option maxRecDepth 100000 in
theorem q238 : (Jvm.Cond.code ({ cls := "ArenaNetwork", name := "tensorAt", desc := "(I)LArenaNetwork$Tensor;" } : Jvm.MethodName) prog_1_method_18_code (2 : Nat) (Option.some (Jvm.ClassFile.FieldType.object "ArenaNetwork$Tensor"))) ∈ lw_gd := tin 273 rfl
set_option maxRecDepth 100000 in
theorem q239 : (Jvm.Cond.methodLink "ArenaNetwork" (110 : Nat) ({ cls := "java/util/ArrayList", name := "get", desc := "(I)Ljava/lang/Object;" } : Jvm.MethodName)) ∈ lw_gd := tin 274 rfl
set_option maxRecDepth 100000 in
theorem q240 : (Jvm.Cond.instanceMethod ({ cls := "java/util/ArrayList", name := "get", desc := "(I)Ljava/lang/Object;" } : Jvm.MethodName)) ∈ lw_gd := tin 275 rfl
set_option maxRecDepth 100000 in
theorem q241 : (Jvm.Cond.selects "java/util/ArrayList" ({ cls := "java/util/ArrayList", name := "get", desc := "(I)Ljava/lang/Object;" } : Jvm.MethodName) ({ cls := "java/util/ArrayList", name := "get", desc := "(I)Ljava/lang/Object;" } : Jvm.MethodName)) ∈ lw_gd := tin 276 rfl
set_option maxRecDepth 100000 in
theorem q242 : (Jvm.Cond.code ({ cls := "java/util/ArrayList", name := "get", desc := "(I)Ljava/lang/Object;" } : Jvm.MethodName) prog_15_method_20_code (2 : Nat) (Option.some (Jvm.ClassFile.FieldType.object "java/lang/Object"))) ∈ lw_gd := tin 277 rfl
set_option maxRecDepth 100000 in
theorem q243 : (Jvm.Cond.methodLink "java/util/ArrayList" (118 : Nat) ({ cls := "java/util/Objects", name := "checkIndex", desc := "(II)I" } : Jvm.MethodName)) ∈ lw_gd := tin 278 rfl
set_option maxRecDepth 100000 in
theorem q244 : (Jvm.Cond.static ({ cls := "java/util/Objects", name := "checkIndex", desc := "(II)I" } : Jvm.MethodName)) ∈ lw_gd := tin 279 rfl
set_option maxRecDepth 100000 in
theorem q245 : (Jvm.Cond.code ({ cls := "java/util/Objects", name := "checkIndex", desc := "(II)I" } : Jvm.MethodName) prog_19_method_17_code (2 : Nat) (Option.some Jvm.ClassFile.FieldType.int)) ∈ lw_gd := tin 280 rfl
set_option maxRecDepth 100000 in
theorem q246 : (Jvm.Cond.methodLink "java/util/Objects" (105 : Nat) ({ cls := "jdk/internal/util/Preconditions", name := "checkIndex", desc := "(IILjava/util/function/BiFunction;)I" } : Jvm.MethodName)) ∈ lw_gd := tin 281 rfl
set_option maxRecDepth 100000 in
theorem q247 : (Jvm.Cond.static ({ cls := "jdk/internal/util/Preconditions", name := "checkIndex", desc := "(IILjava/util/function/BiFunction;)I" } : Jvm.MethodName)) ∈ lw_gd := tin 282 rfl
set_option maxRecDepth 100000 in
theorem q248 : (Jvm.Cond.code ({ cls := "jdk/internal/util/Preconditions", name := "checkIndex", desc := "(IILjava/util/function/BiFunction;)I" } : Jvm.MethodName) prog_23_method_11_code (3 : Nat) (Option.some Jvm.ClassFile.FieldType.int)) ∈ lw_gd := tin 283 rfl
set_option maxRecDepth 100000 in
theorem q249 : (Jvm.Cond.methodLink "java/util/ArrayList" (123 : Nat) ({ cls := "java/util/ArrayList", name := "elementData", desc := "(I)Ljava/lang/Object;" } : Jvm.MethodName)) ∈ lw_gd := tin 284 rfl
set_option maxRecDepth 100000 in
theorem q250 : (Jvm.Cond.instanceMethod ({ cls := "java/util/ArrayList", name := "elementData", desc := "(I)Ljava/lang/Object;" } : Jvm.MethodName)) ∈ lw_gd := tin 285 rfl
set_option maxRecDepth 100000 in
theorem q251 : (Jvm.Cond.selects "java/util/ArrayList" ({ cls := "java/util/ArrayList", name := "elementData", desc := "(I)Ljava/lang/Object;" } : Jvm.MethodName) ({ cls := "java/util/ArrayList", name := "elementData", desc := "(I)Ljava/lang/Object;" } : Jvm.MethodName)) ∈ lw_gd := tin 286 rfl
set_option maxRecDepth 100000 in
theorem q252 : (Jvm.Cond.code ({ cls := "java/util/ArrayList", name := "elementData", desc := "(I)Ljava/lang/Object;" } : Jvm.MethodName) prog_15_method_18_code (2 : Nat) (Option.some (Jvm.ClassFile.FieldType.object "java/lang/Object"))) ∈ lw_gd := tin 287 rfl
set_option maxRecDepth 100000 in
theorem q253 : (Jvm.Cond.methodLink "ArenaNetwork" (73 : Nat) ({ cls := "ArenaNetwork$Tensor", name := "hasCell", desc := "(I)Z" } : Jvm.MethodName)) ∈ lw_gd := tin 288 rfl
set_option maxRecDepth 100000 in
theorem q254 : (Jvm.Cond.instanceMethod ({ cls := "ArenaNetwork$Tensor", name := "hasCell", desc := "(I)Z" } : Jvm.MethodName)) ∈ lw_gd := tin 289 rfl
set_option maxRecDepth 100000 in
theorem q255 : (Jvm.Cond.selects "ArenaNetwork$Tensor" ({ cls := "ArenaNetwork$Tensor", name := "hasCell", desc := "(I)Z" } : Jvm.MethodName) ({ cls := "ArenaNetwork$Tensor", name := "hasCell", desc := "(I)Z" } : Jvm.MethodName)) ∈ lw_gd := tin 290 rfl
set_option maxRecDepth 100000 in
theorem q256 : (Jvm.Cond.code ({ cls := "ArenaNetwork$Tensor", name := "hasCell", desc := "(I)Z" } : Jvm.MethodName) prog_5_method_3_code (2 : Nat) (Option.some Jvm.ClassFile.FieldType.boolean)) ∈ lw_gd := tin 291 rfl
set_option maxRecDepth 100000 in
theorem q261 : (Jvm.Cond.methodLink "ArenaNetwork" (80 : Nat) ({ cls := "ArenaNetwork", name := "isScale", desc := "(I)Z" } : Jvm.MethodName)) ∈ lw_gd := tin 296 rfl
set_option maxRecDepth 100000 in
theorem q262 : (Jvm.Cond.static ({ cls := "ArenaNetwork", name := "isScale", desc := "(I)Z" } : Jvm.MethodName)) ∈ lw_gd := tin 297 rfl
set_option maxRecDepth 100000 in
theorem q263 : (Jvm.Cond.code ({ cls := "ArenaNetwork", name := "isScale", desc := "(I)Z" } : Jvm.MethodName) prog_1_method_25_code (1 : Nat) (Option.some Jvm.ClassFile.FieldType.boolean)) ∈ lw_gd := tin 298 rfl
set_option maxRecDepth 100000 in
theorem q268 : (Jvm.Cond.classLink "ArenaNetwork" (89 : Nat) "ArenaNetwork$Operator") ∈ lw_gd := tin 303 rfl
set_option maxRecDepth 100000 in
theorem q269 : (Jvm.Cond.instantiable "ArenaNetwork$Operator" (5 : Nat)) ∈ lw_gd := tin 304 rfl
set_option maxRecDepth 100000 in
theorem q270 : (Jvm.Cond.methodLink "ArenaNetwork" (91 : Nat) ({ cls := "ArenaNetwork$Operator", name := "<init>", desc := "(ILArenaNetwork$Tensor;LArenaNetwork$Tensor;LArenaNetwork$Tensor;I)V" } : Jvm.MethodName)) ∈ lw_gd := tin 305 rfl
set_option maxRecDepth 100000 in
theorem q271 : (Jvm.Cond.instanceMethod ({ cls := "ArenaNetwork$Operator", name := "<init>", desc := "(ILArenaNetwork$Tensor;LArenaNetwork$Tensor;LArenaNetwork$Tensor;I)V" } : Jvm.MethodName)) ∈ lw_gd := tin 306 rfl
set_option maxRecDepth 100000 in
theorem q272 : (Jvm.Cond.code ({ cls := "ArenaNetwork$Operator", name := "<init>", desc := "(ILArenaNetwork$Tensor;LArenaNetwork$Tensor;LArenaNetwork$Tensor;I)V" } : Jvm.MethodName) prog_3_method_1_code (6 : Nat) (Option.none : Option Jvm.ClassFile.FieldType)) ∈ lw_gd := tin 307 rfl
set_option maxRecDepth 100000 in
theorem q273 : (Jvm.Cond.methodLink "ArenaNetwork$Operator" (3 : Nat) ({ cls := "java/lang/Object", name := "<init>", desc := "()V" } : Jvm.MethodName)) ∈ lw_gd := tin 308 rfl
set_option maxRecDepth 100000 in
theorem q274 : (Jvm.Cond.fieldLink "ArenaNetwork$Operator" (9 : Nat) "ArenaNetwork$Operator" "kind" "I") ∈ lw_gd := tin 309 rfl
set_option maxRecDepth 100000 in
theorem q275 : (Jvm.Cond.fieldLink "ArenaNetwork$Operator" (15 : Nat) "ArenaNetwork$Operator" "a" "LArenaNetwork$Tensor;") ∈ lw_gd := tin 310 rfl
set_option maxRecDepth 100000 in
theorem q276 : (Jvm.Cond.fieldLink "ArenaNetwork" (167 : Nat) "ArenaNetwork$Operator" "a" "LArenaNetwork$Tensor;") ∈ lw_gd := tin 311 rfl
set_option maxRecDepth 100000 in
theorem q277 : (Jvm.Cond.fieldLink "ArenaNetwork$Operator" (19 : Nat) "ArenaNetwork$Operator" "b" "LArenaNetwork$Tensor;") ∈ lw_gd := tin 312 rfl
set_option maxRecDepth 100000 in
theorem q278 : (Jvm.Cond.fieldLink "ArenaNetwork" (170 : Nat) "ArenaNetwork$Operator" "b" "LArenaNetwork$Tensor;") ∈ lw_gd := tin 313 rfl
set_option maxRecDepth 100000 in
theorem q279 : (Jvm.Cond.fieldLink "ArenaNetwork$Operator" (22 : Nat) "ArenaNetwork$Operator" "\x72" "LArenaNetwork$Tensor;") ∈ lw_gd := tin 314 rfl
set_option maxRecDepth 100000 in
theorem q280 : (Jvm.Cond.fieldLink "ArenaNetwork" (163 : Nat) "ArenaNetwork$Operator" "\x72" "LArenaNetwork$Tensor;") ∈ lw_gd := tin 315 rfl
set_option maxRecDepth 100000 in
theorem q281 : (Jvm.Cond.fieldLink "ArenaNetwork$Operator" (25 : Nat) "ArenaNetwork$Operator" "p" "I") ∈ lw_gd := tin 316 rfl
set_option maxRecDepth 100000 in
theorem q282 : (Jvm.Cond.fieldLink "ArenaNetwork" (184 : Nat) "ArenaNetwork$Operator" "p" "I") ∈ lw_gd := tin 317 rfl
set_option maxRecDepth 100000 in
theorem q302 : (Jvm.Cond.methodLink "ArenaNetwork" (97 : Nat) ({ cls := "ArenaNetwork", name := "firstFault", desc := "()I" } : Jvm.MethodName)) ∈ lw_gd := tin 337 rfl
set_option maxRecDepth 100000 in
theorem q304 : (Jvm.Cond.instanceMethod ({ cls := "ArenaNetwork", name := "firstFault", desc := "()I" } : Jvm.MethodName)) ∈ lw_gd := tin 339 rfl
set_option maxRecDepth 100000 in
theorem q305 : (Jvm.Cond.code ({ cls := "ArenaNetwork", name := "firstFault", desc := "()I" } : Jvm.MethodName) prog_1_method_20_code (3 : Nat) (Option.some Jvm.ClassFile.FieldType.int)) ∈ lw_gd := tin 340 rfl
set_option maxRecDepth 100000 in
theorem q306 : (Jvm.Cond.methodLink "ArenaNetwork" (156 : Nat) ({ cls := "ArenaNetwork", name := "faultOf", desc := "(I)I" } : Jvm.MethodName)) ∈ lw_gd := tin 341 rfl
set_option maxRecDepth 100000 in
theorem q308 : (Jvm.Cond.instanceMethod ({ cls := "ArenaNetwork", name := "faultOf", desc := "(I)I" } : Jvm.MethodName)) ∈ lw_gd := tin 343 rfl
set_option maxRecDepth 100000 in
theorem q309 : (Jvm.Cond.code ({ cls := "ArenaNetwork", name := "faultOf", desc := "(I)I" } : Jvm.MethodName) prog_1_method_21_code (3 : Nat) (Option.some Jvm.ClassFile.FieldType.int)) ∈ lw_gd := tin 344 rfl
set_option maxRecDepth 100000 in
theorem q310 : (Jvm.Cond.methodLink "ArenaNetwork" (159 : Nat) ({ cls := "ArenaNetwork", name := "isUnmadeBefore", desc := "(ILArenaNetwork$Tensor;)Z" } : Jvm.MethodName)) ∈ lw_gd := tin 345 rfl
set_option maxRecDepth 100000 in
theorem q312 : (Jvm.Cond.instanceMethod ({ cls := "ArenaNetwork", name := "isUnmadeBefore", desc := "(ILArenaNetwork$Tensor;)Z" } : Jvm.MethodName)) ∈ lw_gd := tin 347 rfl
set_option maxRecDepth 100000 in
theorem q313 : (Jvm.Cond.code ({ cls := "ArenaNetwork", name := "isUnmadeBefore", desc := "(ILArenaNetwork$Tensor;)Z" } : Jvm.MethodName) prog_1_method_22_code (4 : Nat) (Option.some Jvm.ClassFile.FieldType.boolean)) ∈ lw_gd := tin 348 rfl
set_option maxRecDepth 100000 in
theorem q314 : (Jvm.Cond.methodLink "ArenaNetwork" (173 : Nat) ({ cls := "ArenaNetwork$Operator", name := "fits", desc := "()Z" } : Jvm.MethodName)) ∈ lw_gd := tin 349 rfl
set_option maxRecDepth 100000 in
theorem q315 : (Jvm.Cond.instanceMethod ({ cls := "ArenaNetwork$Operator", name := "fits", desc := "()Z" } : Jvm.MethodName)) ∈ lw_gd := tin 350 rfl
set_option maxRecDepth 100000 in
theorem q316 : (Jvm.Cond.selects "ArenaNetwork$Operator" ({ cls := "ArenaNetwork$Operator", name := "fits", desc := "()Z" } : Jvm.MethodName) ({ cls := "ArenaNetwork$Operator", name := "fits", desc := "()Z" } : Jvm.MethodName)) ∈ lw_gd := tin 351 rfl
set_option maxRecDepth 100000 in
theorem q317 : (Jvm.Cond.code ({ cls := "ArenaNetwork$Operator", name := "fits", desc := "()Z" } : Jvm.MethodName) prog_3_method_2_code (1 : Nat) (Option.some Jvm.ClassFile.FieldType.boolean)) ∈ lw_gd := tin 352 rfl
set_option maxRecDepth 100000 in
theorem q319 : (Jvm.Cond.methodLink "ArenaNetwork" (100 : Nat) ({ cls := "ArenaNetwork", name := "giveLives", desc := "()V" } : Jvm.MethodName)) ∈ lw_gd := tin 354 rfl
set_option maxRecDepth 100000 in
theorem q321 : (Jvm.Cond.instanceMethod ({ cls := "ArenaNetwork", name := "giveLives", desc := "()V" } : Jvm.MethodName)) ∈ lw_gd := tin 356 rfl
set_option maxRecDepth 100000 in
theorem q322 : (Jvm.Cond.code ({ cls := "ArenaNetwork", name := "giveLives", desc := "()V" } : Jvm.MethodName) prog_1_method_23_code (3 : Nat) (Option.none : Option Jvm.ClassFile.FieldType)) ∈ lw_gd := tin 357 rfl
set_option maxRecDepth 100000 in
theorem q323 : (Jvm.Cond.methodLink "ArenaNetwork" (177 : Nat) ({ cls := "ArenaNetwork$Tensor", name := "resetLife", desc := "()V" } : Jvm.MethodName)) ∈ lw_gd := tin 358 rfl
set_option maxRecDepth 100000 in
theorem q324 : (Jvm.Cond.instanceMethod ({ cls := "ArenaNetwork$Tensor", name := "resetLife", desc := "()V" } : Jvm.MethodName)) ∈ lw_gd := tin 359 rfl
set_option maxRecDepth 100000 in
theorem q325 : (Jvm.Cond.selects "ArenaNetwork$Tensor" ({ cls := "ArenaNetwork$Tensor", name := "resetLife", desc := "()V" } : Jvm.MethodName) ({ cls := "ArenaNetwork$Tensor", name := "resetLife", desc := "()V" } : Jvm.MethodName)) ∈ lw_gd := tin 360 rfl
set_option maxRecDepth 100000 in
theorem q326 : (Jvm.Cond.code ({ cls := "ArenaNetwork$Tensor", name := "resetLife", desc := "()V" } : Jvm.MethodName) prog_5_method_5_code (1 : Nat) (Option.none : Option Jvm.ClassFile.FieldType)) ∈ lw_gd := tin 361 rfl
set_option maxRecDepth 100000 in
theorem q327 : (Jvm.Cond.methodLink "ArenaNetwork$Tensor" (51 : Nat) ({ cls := "ArenaNetwork$Tensor", name := "beginLife", desc := "(I)V" } : Jvm.MethodName)) ∈ lw_gd := tin 362 rfl
set_option maxRecDepth 100000 in
theorem q328 : (Jvm.Cond.instanceMethod ({ cls := "ArenaNetwork$Tensor", name := "beginLife", desc := "(I)V" } : Jvm.MethodName)) ∈ lw_gd := tin 363 rfl
set_option maxRecDepth 100000 in
theorem q329 : (Jvm.Cond.selects "ArenaNetwork$Tensor" ({ cls := "ArenaNetwork$Tensor", name := "beginLife", desc := "(I)V" } : Jvm.MethodName) ({ cls := "ArenaNetwork$Tensor", name := "beginLife", desc := "(I)V" } : Jvm.MethodName)) ∈ lw_gd := tin 364 rfl
set_option maxRecDepth 100000 in
theorem q330 : (Jvm.Cond.code ({ cls := "ArenaNetwork$Tensor", name := "beginLife", desc := "(I)V" } : Jvm.MethodName) prog_5_method_6_code (2 : Nat) (Option.none : Option Jvm.ClassFile.FieldType)) ∈ lw_gd := tin 365 rfl
set_option maxRecDepth 100000 in
theorem q331 : (Jvm.Cond.methodLink "ArenaNetwork" (180 : Nat) ({ cls := "ArenaNetwork$Tensor", name := "beginLife", desc := "(I)V" } : Jvm.MethodName)) ∈ lw_gd := tin 366 rfl
set_option maxRecDepth 100000 in
theorem q332 : (Jvm.Cond.methodLink "ArenaNetwork" (103 : Nat) ({ cls := "ArenaNetwork$Arena", name := "layOut", desc := "(Ljava/util/ArrayList;)V" } : Jvm.MethodName)) ∈ lw_gd := tin 367 rfl
set_option maxRecDepth 100000 in
theorem q333 : (Jvm.Cond.instanceMethod ({ cls := "ArenaNetwork$Arena", name := "layOut", desc := "(Ljava/util/ArrayList;)V" } : Jvm.MethodName)) ∈ lw_gd := tin 368 rfl
set_option maxRecDepth 100000 in
theorem q334 : (Jvm.Cond.selects "ArenaNetwork$Arena" ({ cls := "ArenaNetwork$Arena", name := "layOut", desc := "(Ljava/util/ArrayList;)V" } : Jvm.MethodName) ({ cls := "ArenaNetwork$Arena", name := "layOut", desc := "(Ljava/util/ArrayList;)V" } : Jvm.MethodName)) ∈ lw_gd := tin 369 rfl
set_option maxRecDepth 100000 in
theorem q335 : (Jvm.Cond.code ({ cls := "ArenaNetwork$Arena", name := "layOut", desc := "(Ljava/util/ArrayList;)V" } : Jvm.MethodName) prog_2_method_2_code (5 : Nat) (Option.none : Option Jvm.ClassFile.FieldType)) ∈ lw_gd := tin 370 rfl
set_option maxRecDepth 100000 in
theorem q336 : (Jvm.Cond.methodLink "ArenaNetwork$Arena" (24 : Nat) ({ cls := "java/util/ArrayList", name := "clear", desc := "()V" } : Jvm.MethodName)) ∈ lw_gd := tin 371 rfl
set_option maxRecDepth 100000 in
theorem q337 : (Jvm.Cond.instanceMethod ({ cls := "java/util/ArrayList", name := "clear", desc := "()V" } : Jvm.MethodName)) ∈ lw_gd := tin 372 rfl
set_option maxRecDepth 100000 in
theorem q338 : (Jvm.Cond.selects "java/util/ArrayList" ({ cls := "java/util/ArrayList", name := "clear", desc := "()V" } : Jvm.MethodName) ({ cls := "java/util/ArrayList", name := "clear", desc := "()V" } : Jvm.MethodName)) ∈ lw_gd := tin 373 rfl
set_option maxRecDepth 100000 in
theorem q339 : (Jvm.Cond.code ({ cls := "java/util/ArrayList", name := "clear", desc := "()V" } : Jvm.MethodName) prog_15_method_40_code (4 : Nat) (Option.none : Option Jvm.ClassFile.FieldType)) ∈ lw_gd := tin 374 rfl
set_option maxRecDepth 100000 in
theorem q340 : (Jvm.Cond.methodLink "ArenaNetwork$Arena" (27 : Nat) ({ cls := "java/util/ArrayList", name := "size", desc := "()I" } : Jvm.MethodName)) ∈ lw_gd := tin 375 rfl
set_option maxRecDepth 100000 in
theorem q341 : (Jvm.Cond.methodLink "ArenaNetwork$Arena" (31 : Nat) ({ cls := "java/util/ArrayList", name := "get", desc := "(I)Ljava/lang/Object;" } : Jvm.MethodName)) ∈ lw_gd := tin 376 rfl
set_option maxRecDepth 100000 in
theorem q342 : (Jvm.Cond.classLink "ArenaNetwork$Arena" (1 : Nat) "ArenaNetwork$Tensor") ∈ lw_gd := tin 377 rfl
set_option maxRecDepth 100000 in
theorem q343 : (Jvm.Cond.methodLink "ArenaNetwork$Arena" (40 : Nat) ({ cls := "ArenaNetwork$Arena", name := "put", desc := "(LArenaNetwork$Tensor;)V" } : Jvm.MethodName)) ∈ lw_gd := tin 378 rfl
set_option maxRecDepth 100000 in
theorem q345 : (Jvm.Cond.instanceMethod ({ cls := "ArenaNetwork$Arena", name := "put", desc := "(LArenaNetwork$Tensor;)V" } : Jvm.MethodName)) ∈ lw_gd := tin 380 rfl
set_option maxRecDepth 100000 in
theorem q346 : (Jvm.Cond.code ({ cls := "ArenaNetwork$Arena", name := "put", desc := "(LArenaNetwork$Tensor;)V" } : Jvm.MethodName) prog_2_method_4_code (2 : Nat) (Option.none : Option Jvm.ClassFile.FieldType)) ∈ lw_gd := tin 381 rfl
set_option maxRecDepth 100000 in
theorem q347 : (Jvm.Cond.methodLink "ArenaNetwork$Arena" (44 : Nat) ({ cls := "ArenaNetwork$Arena", name := "leastPlace", desc := "(LArenaNetwork$Tensor;)I" } : Jvm.MethodName)) ∈ lw_gd := tin 382 rfl
set_option maxRecDepth 100000 in
theorem q349 : (Jvm.Cond.instanceMethod ({ cls := "ArenaNetwork$Arena", name := "leastPlace", desc := "(LArenaNetwork$Tensor;)I" } : Jvm.MethodName)) ∈ lw_gd := tin 384 rfl
set_option maxRecDepth 100000 in
theorem q350 : (Jvm.Cond.code ({ cls := "ArenaNetwork$Arena", name := "leastPlace", desc := "(LArenaNetwork$Tensor;)I" } : Jvm.MethodName) prog_2_method_5_code (3 : Nat) (Option.some Jvm.ClassFile.FieldType.int)) ∈ lw_gd := tin 385 rfl
set_option maxRecDepth 100000 in
theorem q351 : (Jvm.Cond.methodLink "ArenaNetwork$Arena" (61 : Nat) ({ cls := "ArenaNetwork$Arena", name := "isFree", desc := "(LArenaNetwork$Tensor;I)Z" } : Jvm.MethodName)) ∈ lw_gd := tin 386 rfl
set_option maxRecDepth 100000 in
theorem q353 : (Jvm.Cond.instanceMethod ({ cls := "ArenaNetwork$Arena", name := "isFree", desc := "(LArenaNetwork$Tensor;I)Z" } : Jvm.MethodName)) ∈ lw_gd := tin 388 rfl
set_option maxRecDepth 100000 in
theorem q354 : (Jvm.Cond.code ({ cls := "ArenaNetwork$Arena", name := "isFree", desc := "(LArenaNetwork$Tensor;I)Z" } : Jvm.MethodName) prog_2_method_6_code (6 : Nat) (Option.some Jvm.ClassFile.FieldType.boolean)) ∈ lw_gd := tin 389 rfl
set_option maxRecDepth 100000 in
theorem q355 : (Jvm.Cond.methodLink "ArenaNetwork$Arena" (65 : Nat) ({ cls := "ArenaNetwork$Tensor", name := "meets", desc := "(LArenaNetwork$Tensor;)Z" } : Jvm.MethodName)) ∈ lw_gd := tin 390 rfl
set_option maxRecDepth 100000 in
theorem q356 : (Jvm.Cond.instanceMethod ({ cls := "ArenaNetwork$Tensor", name := "meets", desc := "(LArenaNetwork$Tensor;)Z" } : Jvm.MethodName)) ∈ lw_gd := tin 391 rfl
set_option maxRecDepth 100000 in
theorem q357 : (Jvm.Cond.selects "ArenaNetwork$Tensor" ({ cls := "ArenaNetwork$Tensor", name := "meets", desc := "(LArenaNetwork$Tensor;)Z" } : Jvm.MethodName) ({ cls := "ArenaNetwork$Tensor", name := "meets", desc := "(LArenaNetwork$Tensor;)Z" } : Jvm.MethodName)) ∈ lw_gd := tin 392 rfl
set_option maxRecDepth 100000 in
theorem q358 : (Jvm.Cond.code ({ cls := "ArenaNetwork$Tensor", name := "meets", desc := "(LArenaNetwork$Tensor;)Z" } : Jvm.MethodName) prog_5_method_8_code (2 : Nat) (Option.some Jvm.ClassFile.FieldType.boolean)) ∈ lw_gd := tin 393 rfl
set_option maxRecDepth 100000 in
theorem q359 : (Jvm.Cond.methodLink "ArenaNetwork$Arena" (51 : Nat) ({ cls := "java/lang/Math", name := "max", desc := "(II)I" } : Jvm.MethodName)) ∈ lw_gd := tin 394 rfl
set_option maxRecDepth 100000 in
theorem q360 : (Jvm.Cond.methodLink "ArenaNetwork$Arena" (57 : Nat) ({ cls := "java/util/ArrayList", name := "add", desc := "(Ljava/lang/Object;)Z" } : Jvm.MethodName)) ∈ lw_gd := tin 395 rfl
set_option maxRecDepth 100000 in
theorem q369 : (Jvm.Cond.methodLink "ArenaNetwork" (114 : Nat) ({ cls := "ArenaNetwork$Tensor", name := "takeGiven", desc := "()V" } : Jvm.MethodName)) ∈ lw_gd := tin 404 rfl
set_option maxRecDepth 100000 in
theorem q370 : (Jvm.Cond.instanceMethod ({ cls := "ArenaNetwork$Tensor", name := "takeGiven", desc := "()V" } : Jvm.MethodName)) ∈ lw_gd := tin 405 rfl
set_option maxRecDepth 100000 in
theorem q371 : (Jvm.Cond.selects "ArenaNetwork$Tensor" ({ cls := "ArenaNetwork$Tensor", name := "takeGiven", desc := "()V" } : Jvm.MethodName) ({ cls := "ArenaNetwork$Tensor", name := "takeGiven", desc := "()V" } : Jvm.MethodName)) ∈ lw_gd := tin 406 rfl
set_option maxRecDepth 100000 in
theorem q372 : (Jvm.Cond.code ({ cls := "ArenaNetwork$Tensor", name := "takeGiven", desc := "()V" } : Jvm.MethodName) prog_5_method_4_code (1 : Nat) (Option.none : Option Jvm.ClassFile.FieldType)) ∈ lw_gd := tin 407 rfl
set_option maxRecDepth 100000 in
theorem q373 : (Jvm.Cond.methodLink "ArenaNetwork$Tensor" (45 : Nat) ({ cls := "java/lang/System", name := "arraycopy", desc := "(Ljava/lang/Object;ILjava/lang/Object;II)V" } : Jvm.MethodName)) ∈ lw_gd := tin 408 rfl
set_option maxRecDepth 100000 in
theorem q378 : (Jvm.Cond.methodLink "ArenaNetwork" (117 : Nat) ({ cls := "ArenaNetwork", name := "doNext", desc := "()V" } : Jvm.MethodName)) ∈ lw_gd := tin 413 rfl
set_option maxRecDepth 100000 in
theorem q380 : (Jvm.Cond.instanceMethod ({ cls := "ArenaNetwork", name := "doNext", desc := "()V" } : Jvm.MethodName)) ∈ lw_gd := tin 415 rfl
set_option maxRecDepth 100000 in
theorem q381 : (Jvm.Cond.code ({ cls := "ArenaNetwork", name := "doNext", desc := "()V" } : Jvm.MethodName) prog_1_method_24_code (2 : Nat) (Option.none : Option Jvm.ClassFile.FieldType)) ∈ lw_gd := tin 416 rfl
set_option maxRecDepth 100000 in
theorem q382 : (Jvm.Cond.methodLink "ArenaNetwork" (187 : Nat) ({ cls := "ArenaNetwork$Operator", name := "makeResult", desc := "(LArenaNetwork$Scale;)V" } : Jvm.MethodName)) ∈ lw_gd := tin 417 rfl
set_option maxRecDepth 100000 in
theorem q383 : (Jvm.Cond.instanceMethod ({ cls := "ArenaNetwork$Operator", name := "makeResult", desc := "(LArenaNetwork$Scale;)V" } : Jvm.MethodName)) ∈ lw_gd := tin 418 rfl
set_option maxRecDepth 100000 in
theorem q384 : (Jvm.Cond.selects "ArenaNetwork$Operator" ({ cls := "ArenaNetwork$Operator", name := "makeResult", desc := "(LArenaNetwork$Scale;)V" } : Jvm.MethodName) ({ cls := "ArenaNetwork$Operator", name := "makeResult", desc := "(LArenaNetwork$Scale;)V" } : Jvm.MethodName)) ∈ lw_gd := tin 419 rfl
set_option maxRecDepth 100000 in
theorem q385 : (Jvm.Cond.code ({ cls := "ArenaNetwork$Operator", name := "makeResult", desc := "(LArenaNetwork$Scale;)V" } : Jvm.MethodName) prog_3_method_3_code (3 : Nat) (Option.none : Option Jvm.ClassFile.FieldType)) ∈ lw_gd := tin 420 rfl
set_option maxRecDepth 100000 in
theorem q386 : (Jvm.Cond.methodLink "ArenaNetwork$Operator" (45 : Nat) ({ cls := "ArenaNetwork$Operator", name := "resultCell", desc := "(ILArenaNetwork$Scale;)I" } : Jvm.MethodName)) ∈ lw_gd := tin 421 rfl
set_option maxRecDepth 100000 in
theorem q388 : (Jvm.Cond.instanceMethod ({ cls := "ArenaNetwork$Operator", name := "resultCell", desc := "(ILArenaNetwork$Scale;)I" } : Jvm.MethodName)) ∈ lw_gd := tin 423 rfl
set_option maxRecDepth 100000 in
theorem q389 : (Jvm.Cond.code ({ cls := "ArenaNetwork$Operator", name := "resultCell", desc := "(ILArenaNetwork$Scale;)I" } : Jvm.MethodName) prog_3_method_4_code (3 : Nat) (Option.some Jvm.ClassFile.FieldType.int)) ∈ lw_gd := tin 424 rfl
set_option maxRecDepth 100000 in
theorem q390 : (Jvm.Cond.methodLink "ArenaNetwork$Operator" (49 : Nat) ({ cls := "ArenaNetwork$Operator", name := "denseSum", desc := "(I)I" } : Jvm.MethodName)) ∈ lw_gd := tin 425 rfl
set_option maxRecDepth 100000 in
theorem q392 : (Jvm.Cond.instanceMethod ({ cls := "ArenaNetwork$Operator", name := "denseSum", desc := "(I)I" } : Jvm.MethodName)) ∈ lw_gd := tin 427 rfl
set_option maxRecDepth 100000 in
theorem q393 : (Jvm.Cond.code ({ cls := "ArenaNetwork$Operator", name := "denseSum", desc := "(I)I" } : Jvm.MethodName) prog_3_method_6_code (4 : Nat) (Option.some Jvm.ClassFile.FieldType.int)) ∈ lw_gd := tin 428 rfl
set_option maxRecDepth 100000 in
theorem q394 : (Jvm.Cond.methodLink "ArenaNetwork$Operator" (62 : Nat) ({ cls := "ArenaNetwork$Tensor", name := "distance", desc := "(I)I" } : Jvm.MethodName)) ∈ lw_gd := tin 429 rfl
set_option maxRecDepth 100000 in
theorem q395 : (Jvm.Cond.instanceMethod ({ cls := "ArenaNetwork$Tensor", name := "distance", desc := "(I)I" } : Jvm.MethodName)) ∈ lw_gd := tin 430 rfl
set_option maxRecDepth 100000 in
theorem q396 : (Jvm.Cond.selects "ArenaNetwork$Tensor" ({ cls := "ArenaNetwork$Tensor", name := "distance", desc := "(I)I" } : Jvm.MethodName) ({ cls := "ArenaNetwork$Tensor", name := "distance", desc := "(I)I" } : Jvm.MethodName)) ∈ lw_gd := tin 431 rfl
set_option maxRecDepth 100000 in
theorem q397 : (Jvm.Cond.code ({ cls := "ArenaNetwork$Tensor", name := "distance", desc := "(I)I" } : Jvm.MethodName) prog_5_method_9_code (2 : Nat) (Option.some Jvm.ClassFile.FieldType.int)) ∈ lw_gd := tin 432 rfl
set_option maxRecDepth 100000 in
theorem q398 : (Jvm.Cond.methodLink "ArenaNetwork$Operator" (53 : Nat) ({ cls := "ArenaNetwork$Scale", name := "applied", desc := "(J)I" } : Jvm.MethodName)) ∈ lw_gd := tin 433 rfl
set_option maxRecDepth 100000 in
theorem q399 : (Jvm.Cond.instanceMethod ({ cls := "ArenaNetwork$Scale", name := "applied", desc := "(J)I" } : Jvm.MethodName)) ∈ lw_gd := tin 434 rfl
set_option maxRecDepth 100000 in
theorem q400 : (Jvm.Cond.selects "ArenaNetwork$Scale" ({ cls := "ArenaNetwork$Scale", name := "applied", desc := "(J)I" } : Jvm.MethodName) ({ cls := "ArenaNetwork$Scale", name := "applied", desc := "(J)I" } : Jvm.MethodName)) ∈ lw_gd := tin 435 rfl
set_option maxRecDepth 100000 in
theorem q401 : (Jvm.Cond.code ({ cls := "ArenaNetwork$Scale", name := "applied", desc := "(J)I" } : Jvm.MethodName) prog_4_method_2_code (5 : Nat) (Option.some Jvm.ClassFile.FieldType.int)) ∈ lw_gd := tin 436 rfl
set_option maxRecDepth 100000 in
theorem q402 : (Jvm.Cond.constantLong "ArenaNetwork$Scale" (17 : Nat) (2147483648 : Int64)) ∈ lw_gd := tin 437 rfl
set_option maxRecDepth 100000 in
theorem q404 : (Jvm.Cond.static ({ cls := "ArenaNetwork", name := "rounded", desc := "(JJ)J" } : Jvm.MethodName)) ∈ lw_gd := tin 439 rfl
set_option maxRecDepth 100000 in
theorem q405 : (Jvm.Cond.code ({ cls := "ArenaNetwork", name := "rounded", desc := "(JJ)J" } : Jvm.MethodName) prog_1_method_28_code (6 : Nat) (Option.some Jvm.ClassFile.FieldType.long)) ∈ lw_gd := tin 440 rfl
set_option maxRecDepth 100000 in
theorem q406 : (Jvm.Cond.methodLink "ArenaNetwork" (191 : Nat) ({ cls := "java/lang/Math", name := "abs", desc := "(J)J" } : Jvm.MethodName)) ∈ lw_gd := tin 441 rfl
set_option maxRecDepth 100000 in
theorem q407 : (Jvm.Cond.static ({ cls := "java/lang/Math", name := "abs", desc := "(J)J" } : Jvm.MethodName)) ∈ lw_gd := tin 442 rfl
set_option maxRecDepth 100000 in
theorem q408 : (Jvm.Cond.code ({ cls := "java/lang/Math", name := "abs", desc := "(J)J" } : Jvm.MethodName) prog_11_method_61_code (2 : Nat) (Option.some Jvm.ClassFile.FieldType.long)) ∈ lw_gd := tin 443 rfl
set_option maxRecDepth 100000 in
theorem q409 : (Jvm.Cond.constantLong "ArenaNetwork" (197 : Nat) (2 : Int64)) ∈ lw_gd := tin 444 rfl
set_option maxRecDepth 100000 in
theorem q410 : (Jvm.Cond.methodLink "ArenaNetwork$Operator" (59 : Nat) ({ cls := "ArenaNetwork$Operator", name := "clampedResult", desc := "(I)I" } : Jvm.MethodName)) ∈ lw_gd := tin 445 rfl
set_option maxRecDepth 100000 in
theorem q412 : (Jvm.Cond.instanceMethod ({ cls := "ArenaNetwork$Operator", name := "clampedResult", desc := "(I)I" } : Jvm.MethodName)) ∈ lw_gd := tin 447 rfl
set_option maxRecDepth 100000 in
theorem q413 : (Jvm.Cond.code ({ cls := "ArenaNetwork$Operator", name := "clampedResult", desc := "(I)I" } : Jvm.MethodName) prog_3_method_5_code (2 : Nat) (Option.some Jvm.ClassFile.FieldType.int)) ∈ lw_gd := tin 448 rfl
set_option maxRecDepth 100000 in
theorem q414 : (Jvm.Cond.methodLink "ArenaNetwork$Operator" (75 : Nat) ({ cls := "java/lang/Math", name := "min", desc := "(II)I" } : Jvm.MethodName)) ∈ lw_gd := tin 449 rfl
set_option maxRecDepth 100000 in
theorem q415 : (Jvm.Cond.methodLink "ArenaNetwork$Operator" (81 : Nat) ({ cls := "java/lang/Math", name := "max", desc := "(II)I" } : Jvm.MethodName)) ∈ lw_gd := tin 450 rfl
set_option maxRecDepth 100000 in
theorem q416 : (Jvm.Cond.methodLink "ArenaNetwork$Operator" (65 : Nat) ({ cls := "ArenaNetwork$Operator", name := "greatestOfGroup", desc := "(I)I" } : Jvm.MethodName)) ∈ lw_gd := tin 451 rfl
set_option maxRecDepth 100000 in
theorem q418 : (Jvm.Cond.instanceMethod ({ cls := "ArenaNetwork$Operator", name := "greatestOfGroup", desc := "(I)I" } : Jvm.MethodName)) ∈ lw_gd := tin 453 rfl
set_option maxRecDepth 100000 in
theorem q419 : (Jvm.Cond.code ({ cls := "ArenaNetwork$Operator", name := "greatestOfGroup", desc := "(I)I" } : Jvm.MethodName) prog_3_method_7_code (4 : Nat) (Option.some Jvm.ClassFile.FieldType.int)) ∈ lw_gd := tin 454 rfl
set_option maxRecDepth 100000 in
theorem q420 : (Jvm.Cond.methodLink "ArenaNetwork$Operator" (68 : Nat) ({ cls := "ArenaNetwork$Operator", name := "sumOfGroup", desc := "(I)I" } : Jvm.MethodName)) ∈ lw_gd := tin 455 rfl
set_option maxRecDepth 100000 in
theorem q422 : (Jvm.Cond.instanceMethod ({ cls := "ArenaNetwork$Operator", name := "sumOfGroup", desc := "(I)I" } : Jvm.MethodName)) ∈ lw_gd := tin 457 rfl
set_option maxRecDepth 100000 in
theorem q423 : (Jvm.Cond.code ({ cls := "ArenaNetwork$Operator", name := "sumOfGroup", desc := "(I)I" } : Jvm.MethodName) prog_3_method_8_code (4 : Nat) (Option.some Jvm.ClassFile.FieldType.int)) ∈ lw_gd := tin 458 rfl
set_option maxRecDepth 100000 in
theorem q433 : (Jvm.Cond.methodLink "ArenaNetwork" (120 : Nat) ({ cls := "ArenaNetwork$Tensor", name := "livesAfter", desc := "(I)Z" } : Jvm.MethodName)) ∈ lw_gd := tin 468 rfl
set_option maxRecDepth 100000 in
theorem q434 : (Jvm.Cond.instanceMethod ({ cls := "ArenaNetwork$Tensor", name := "livesAfter", desc := "(I)Z" } : Jvm.MethodName)) ∈ lw_gd := tin 469 rfl
set_option maxRecDepth 100000 in
theorem q435 : (Jvm.Cond.selects "ArenaNetwork$Tensor" ({ cls := "ArenaNetwork$Tensor", name := "livesAfter", desc := "(I)Z" } : Jvm.MethodName) ({ cls := "ArenaNetwork$Tensor", name := "livesAfter", desc := "(I)Z" } : Jvm.MethodName)) ∈ lw_gd := tin 470 rfl
set_option maxRecDepth 100000 in
theorem q436 : (Jvm.Cond.code ({ cls := "ArenaNetwork$Tensor", name := "livesAfter", desc := "(I)Z" } : Jvm.MethodName) prog_5_method_7_code (2 : Nat) (Option.some Jvm.ClassFile.FieldType.boolean)) ∈ lw_gd := tin 471 rfl
set_option maxRecDepth 100000 in
theorem q441 : (Jvm.Cond.methodLink "ArenaNetwork" (126 : Nat) ({ cls := "ArenaNetwork", name := "livingTensorAt", desc := "(I)LArenaNetwork$Tensor;" } : Jvm.MethodName)) ∈ lw_gd := tin 476 rfl
set_option maxRecDepth 100000 in
theorem q443 : (Jvm.Cond.instanceMethod ({ cls := "ArenaNetwork", name := "livingTensorAt", desc := "(I)LArenaNetwork$Tensor;" } : Jvm.MethodName)) ∈ lw_gd := tin 478 rfl
set_option maxRecDepth 100000 in
theorem q444 : (Jvm.Cond.code ({ cls := "ArenaNetwork", name := "livingTensorAt", desc := "(I)LArenaNetwork$Tensor;" } : Jvm.MethodName) prog_1_method_19_code (3 : Nat) (Option.some (Jvm.ClassFile.FieldType.object "ArenaNetwork$Tensor"))) ∈ lw_gd := tin 479 rfl
set_option maxRecDepth 100000 in
theorem q457 : (Jvm.Cond.constant "ArenaNetwork" (144 : Nat) (-16777216 : Int32)) ∈ lw_gd := tin 492 rfl
set_option maxRecDepth 100000 in
theorem q458 : (Jvm.Cond.constant "ArenaNetwork" (145 : Nat) (16777216 : Int32)) ∈ lw_gd := tin 493 rfl
set_option maxRecDepth 100000 in
theorem q459 : (Jvm.Cond.methodLink "ArenaNetwork" (146 : Nat) ({ cls := "ArenaNetwork$Scale", name := "applied", desc := "(J)I" } : Jvm.MethodName)) ∈ lw_gd := tin 494 rfl
set_option maxRecDepth 100000 in
theorem q464 : (Jvm.Cond.methodLink "ArenaNetwork" (150 : Nat) ({ cls := "ArenaNetwork$Arena", name := "sumOfLengths", desc := "()I" } : Jvm.MethodName)) ∈ lw_gd := tin 499 rfl
set_option maxRecDepth 100000 in
theorem q465 : (Jvm.Cond.instanceMethod ({ cls := "ArenaNetwork$Arena", name := "sumOfLengths", desc := "()I" } : Jvm.MethodName)) ∈ lw_gd := tin 500 rfl
set_option maxRecDepth 100000 in
theorem q466 : (Jvm.Cond.selects "ArenaNetwork$Arena" ({ cls := "ArenaNetwork$Arena", name := "sumOfLengths", desc := "()I" } : Jvm.MethodName) ({ cls := "ArenaNetwork$Arena", name := "sumOfLengths", desc := "()I" } : Jvm.MethodName)) ∈ lw_gd := tin 501 rfl
set_option maxRecDepth 100000 in
theorem q467 : (Jvm.Cond.code ({ cls := "ArenaNetwork$Arena", name := "sumOfLengths", desc := "()I" } : Jvm.MethodName) prog_2_method_3_code (3 : Nat) (Option.some Jvm.ClassFile.FieldType.int)) ∈ lw_gd := tin 502 rfl
set_option maxRecDepth 100000 in
theorem q469 : (Jvm.Cond.instantiable "ArenaNetworkModel" (19 : Nat)) ∈ lw_gd := tin 504 rfl
set_option maxRecDepth 100000 in
theorem q473 : (Jvm.Cond.methodLink "ArenaNetworkModel" (1 : Nat) ({ cls := "java/lang/Object", name := "<init>", desc := "()V" } : Jvm.MethodName)) ∈ lw_gd := tin 508 rfl
set_option maxRecDepth 100000 in
theorem q474 : (Jvm.Cond.constant "ArenaNetworkModel" (60 : Nat) (1073741824 : Int32)) ∈ lw_gd := tin 509 rfl
set_option maxRecDepth 100000 in
theorem q475 : (Jvm.Cond.fieldLink "ArenaNetworkModel" (7 : Nat) "ArenaNetworkModel" "kind" "[I") ∈ lw_gd := tin 510 rfl
set_option maxRecDepth 100000 in
theorem q476 : (Jvm.Cond.fieldLink "ArenaNetworkModel" (13 : Nat) "ArenaNetworkModel" "length" "[I") ∈ lw_gd := tin 511 rfl
set_option maxRecDepth 100000 in
theorem q477 : (Jvm.Cond.fieldLink "ArenaNetworkModel" (16 : Nat) "ArenaNetworkModel" "zero" "[I") ∈ lw_gd := tin 512 rfl
set_option maxRecDepth 100000 in
theorem q478 : (Jvm.Cond.fieldLink "ArenaNetworkModel" (19 : Nat) "ArenaNetworkModel" "kept" "[Z") ∈ lw_gd := tin 513 rfl
set_option maxRecDepth 100000 in
theorem q479 : (Jvm.Cond.fieldLink "ArenaNetworkModel" (23 : Nat) "ArenaNetworkModel" "given" "[I") ∈ lw_gd := tin 514 rfl
set_option maxRecDepth 100000 in
theorem q480 : (Jvm.Cond.fieldLink "ArenaNetworkModel" (26 : Nat) "ArenaNetworkModel" "now" "[I") ∈ lw_gd := tin 515 rfl
set_option maxRecDepth 100000 in
theorem q481 : (Jvm.Cond.fieldLink "ArenaNetworkModel" (61 : Nat) "ArenaNetworkModel" "tensors" "I") ∈ lw_gd := tin 516 rfl
set_option maxRecDepth 100000 in
theorem q482 : (Jvm.Cond.fieldLink "ArenaNetworkModel" (29 : Nat) "ArenaNetworkModel" "multiplier" "[I") ∈ lw_gd := tin 517 rfl
set_option maxRecDepth 100000 in
theorem q483 : (Jvm.Cond.fieldLink "ArenaNetworkModel" (32 : Nat) "ArenaNetworkModel" "shift" "[I") ∈ lw_gd := tin 518 rfl
set_option maxRecDepth 100000 in
theorem q484 : (Jvm.Cond.fieldLink "ArenaNetworkModel" (35 : Nat) "ArenaNetworkModel" "what" "[I") ∈ lw_gd := tin 519 rfl
set_option maxRecDepth 100000 in
theorem q485 : (Jvm.Cond.fieldLink "ArenaNetworkModel" (38 : Nat) "ArenaNetworkModel" "sa" "[I") ∈ lw_gd := tin 520 rfl
set_option maxRecDepth 100000 in
theorem q486 : (Jvm.Cond.fieldLink "ArenaNetworkModel" (41 : Nat) "ArenaNetworkModel" "sb" "[I") ∈ lw_gd := tin 521 rfl
set_option maxRecDepth 100000 in
theorem q487 : (Jvm.Cond.fieldLink "ArenaNetworkModel" (44 : Nat) "ArenaNetworkModel" "result" "[I") ∈ lw_gd := tin 522 rfl
set_option maxRecDepth 100000 in
theorem q488 : (Jvm.Cond.fieldLink "ArenaNetworkModel" (47 : Nat) "ArenaNetworkModel" "setting" "[I") ∈ lw_gd := tin 523 rfl
set_option maxRecDepth 100000 in
theorem q489 : (Jvm.Cond.fieldLink "ArenaNetworkModel" (75 : Nat) "ArenaNetworkModel" "operators" "I") ∈ lw_gd := tin 524 rfl
set_option maxRecDepth 100000 in
theorem q490 : (Jvm.Cond.fieldLink "ArenaNetworkModel" (68 : Nat) "ArenaNetworkModel" "prepared" "Z") ∈ lw_gd := tin 525 rfl
set_option maxRecDepth 100000 in
theorem q491 : (Jvm.Cond.fieldLink "ArenaNetworkModel" (50 : Nat) "ArenaNetworkModel" "offsets" "[I") ∈ lw_gd := tin 526 rfl
set_option maxRecDepth 100000 in
theorem q492 : (Jvm.Cond.fieldLink "ArenaNetworkModel" (53 : Nat) "ArenaNetworkModel" "placedAs" "[I") ∈ lw_gd := tin 527 rfl
set_option maxRecDepth 100000 in
theorem q493 : (Jvm.Cond.fieldLink "ArenaNetworkModel" (56 : Nat) "ArenaNetworkModel" "done" "I") ∈ lw_gd := tin 528 rfl
set_option maxRecDepth 100000 in
theorem q533 : (Jvm.Cond.arrayClass Jvm.ClassFile.FieldType.boolean) ∈ lw_gd := tin 568 rfl
set_option maxRecDepth 100000 in
theorem q538 : (Jvm.Cond.methodLink "ArenaNetworkModel" (64 : Nat) ({ cls := "ArenaNetworkModel", name := "noByte", desc := "(I)Z" } : Jvm.MethodName)) ∈ lw_gd := tin 573 rfl
set_option maxRecDepth 100000 in
theorem q540 : (Jvm.Cond.instanceMethod ({ cls := "ArenaNetworkModel", name := "noByte", desc := "(I)Z" } : Jvm.MethodName)) ∈ lw_gd := tin 575 rfl
set_option maxRecDepth 100000 in
theorem q541 : (Jvm.Cond.code ({ cls := "ArenaNetworkModel", name := "noByte", desc := "(I)Z" } : Jvm.MethodName) prog_7_method_3_code (2 : Nat) (Option.some Jvm.ClassFile.FieldType.boolean)) ∈ lw_gd := tin 576 rfl
set_option maxRecDepth 100000 in
theorem q546 : (Jvm.Cond.methodLink "ArenaNetworkModel" (72 : Nat) ({ cls := "ArenaNetworkModel", name := "noTensor", desc := "(I)Z" } : Jvm.MethodName)) ∈ lw_gd := tin 581 rfl
set_option maxRecDepth 100000 in
theorem q548 : (Jvm.Cond.instanceMethod ({ cls := "ArenaNetworkModel", name := "noTensor", desc := "(I)Z" } : Jvm.MethodName)) ∈ lw_gd := tin 583 rfl
set_option maxRecDepth 100000 in
theorem q549 : (Jvm.Cond.code ({ cls := "ArenaNetworkModel", name := "noTensor", desc := "(I)Z" } : Jvm.MethodName) prog_7_method_2_code (2 : Nat) (Option.some Jvm.ClassFile.FieldType.boolean)) ∈ lw_gd := tin 584 rfl
set_option maxRecDepth 100000 in
theorem q563 : (Jvm.Cond.instanceMethod ({ cls := "ArenaNetworkModel", name := "placed", desc := "(I)I" } : Jvm.MethodName)) ∈ lw_gd := tin 598 rfl
set_option maxRecDepth 100000 in
theorem q564 : (Jvm.Cond.selects "ArenaNetworkModel" ({ cls := "ArenaNetworkModel", name := "placed", desc := "(I)I" } : Jvm.MethodName) ({ cls := "ArenaNetworkModel", name := "placed", desc := "(I)I" } : Jvm.MethodName)) ∈ lw_gd := tin 599 rfl
set_option maxRecDepth 100000 in
theorem q565 : (Jvm.Cond.code ({ cls := "ArenaNetworkModel", name := "placed", desc := "(I)I" } : Jvm.MethodName) prog_7_method_16_code (5 : Nat) (Option.some Jvm.ClassFile.FieldType.int)) ∈ lw_gd := tin 600 rfl
set_option maxRecDepth 100000 in
theorem q566 : (Jvm.Cond.methodLink "ArenaNetworkModel" (93 : Nat) ({ cls := "ArenaNetworkModel", name := "lives", desc := "(I)Z" } : Jvm.MethodName)) ∈ lw_gd := tin 601 rfl
set_option maxRecDepth 100000 in
theorem q568 : (Jvm.Cond.instanceMethod ({ cls := "ArenaNetworkModel", name := "lives", desc := "(I)Z" } : Jvm.MethodName)) ∈ lw_gd := tin 603 rfl
set_option maxRecDepth 100000 in
theorem q569 : (Jvm.Cond.code ({ cls := "ArenaNetworkModel", name := "lives", desc := "(I)Z" } : Jvm.MethodName) prog_7_method_14_code (2 : Nat) (Option.some Jvm.ClassFile.FieldType.boolean)) ∈ lw_gd := tin 604 rfl
set_option maxRecDepth 100000 in
theorem q570 : (Jvm.Cond.methodLink "ArenaNetworkModel" (78 : Nat) ({ cls := "ArenaNetworkModel", name := "maker", desc := "(II)I" } : Jvm.MethodName)) ∈ lw_gd := tin 605 rfl
set_option maxRecDepth 100000 in
theorem q572 : (Jvm.Cond.instanceMethod ({ cls := "ArenaNetworkModel", name := "maker", desc := "(II)I" } : Jvm.MethodName)) ∈ lw_gd := tin 607 rfl
set_option maxRecDepth 100000 in
theorem q573 : (Jvm.Cond.code ({ cls := "ArenaNetworkModel", name := "maker", desc := "(II)I" } : Jvm.MethodName) prog_7_method_9_code (4 : Nat) (Option.some Jvm.ClassFile.FieldType.int)) ∈ lw_gd := tin 608 rfl
set_option maxRecDepth 100000 in
theorem q578 : (Jvm.Cond.methodLink "ArenaNetworkModel" (99 : Nat) ({ cls := "ArenaNetworkModel", name := "fault", desc := "(I)I" } : Jvm.MethodName)) ∈ lw_gd := tin 613 rfl
set_option maxRecDepth 100000 in
theorem q580 : (Jvm.Cond.instanceMethod ({ cls := "ArenaNetworkModel", name := "fault", desc := "(I)I" } : Jvm.MethodName)) ∈ lw_gd := tin 615 rfl
set_option maxRecDepth 100000 in
theorem q581 : (Jvm.Cond.code ({ cls := "ArenaNetworkModel", name := "fault", desc := "(I)I" } : Jvm.MethodName) prog_7_method_12_code (2 : Nat) (Option.some Jvm.ClassFile.FieldType.int)) ∈ lw_gd := tin 616 rfl
set_option maxRecDepth 100000 in
theorem q582 : (Jvm.Cond.methodLink "ArenaNetworkModel" (82 : Nat) ({ cls := "ArenaNetworkModel", name := "unmade", desc := "(II)Z" } : Jvm.MethodName)) ∈ lw_gd := tin 617 rfl
set_option maxRecDepth 100000 in
theorem q584 : (Jvm.Cond.instanceMethod ({ cls := "ArenaNetworkModel", name := "unmade", desc := "(II)Z" } : Jvm.MethodName)) ∈ lw_gd := tin 619 rfl
set_option maxRecDepth 100000 in
theorem q585 : (Jvm.Cond.code ({ cls := "ArenaNetworkModel", name := "unmade", desc := "(II)Z" } : Jvm.MethodName) prog_7_method_11_code (3 : Nat) (Option.some Jvm.ClassFile.FieldType.boolean)) ∈ lw_gd := tin 620 rfl
set_option maxRecDepth 100000 in
theorem q586 : (Jvm.Cond.methodLink "ArenaNetworkModel" (86 : Nat) ({ cls := "ArenaNetworkModel", name := "fits", desc := "(I)Z" } : Jvm.MethodName)) ∈ lw_gd := tin 621 rfl
set_option maxRecDepth 100000 in
theorem q588 : (Jvm.Cond.instanceMethod ({ cls := "ArenaNetworkModel", name := "fits", desc := "(I)Z" } : Jvm.MethodName)) ∈ lw_gd := tin 623 rfl
set_option maxRecDepth 100000 in
theorem q589 : (Jvm.Cond.code ({ cls := "ArenaNetworkModel", name := "fits", desc := "(I)Z" } : Jvm.MethodName) prog_7_method_10_code (9 : Nat) (Option.some Jvm.ClassFile.FieldType.boolean)) ∈ lw_gd := tin 624 rfl
set_option maxRecDepth 100000 in
theorem q590 : (Jvm.Cond.methodLink "ArenaNetworkModel" (102 : Nat) ({ cls := "ArenaNetworkModel", name := "placed", desc := "(I)I" } : Jvm.MethodName)) ∈ lw_gd := tin 625 rfl
set_option maxRecDepth 100000 in
theorem q591 : (Jvm.Cond.methodLink "ArenaNetworkModel" (105 : Nat) ({ cls := "ArenaNetworkModel", name := "apart", desc := "(III)Z" } : Jvm.MethodName)) ∈ lw_gd := tin 626 rfl
set_option maxRecDepth 100000 in
theorem q593 : (Jvm.Cond.instanceMethod ({ cls := "ArenaNetworkModel", name := "apart", desc := "(III)Z" } : Jvm.MethodName)) ∈ lw_gd := tin 628 rfl
set_option maxRecDepth 100000 in
theorem q594 : (Jvm.Cond.code ({ cls := "ArenaNetworkModel", name := "apart", desc := "(III)Z" } : Jvm.MethodName) prog_7_method_17_code (7 : Nat) (Option.some Jvm.ClassFile.FieldType.boolean)) ∈ lw_gd := tin 629 rfl
set_option maxRecDepth 100000 in
theorem q595 : (Jvm.Cond.methodLink "ArenaNetworkModel" (89 : Nat) ({ cls := "ArenaNetworkModel", name := "begin", desc := "(I)I" } : Jvm.MethodName)) ∈ lw_gd := tin 630 rfl
set_option maxRecDepth 100000 in
theorem q597 : (Jvm.Cond.instanceMethod ({ cls := "ArenaNetworkModel", name := "begin", desc := "(I)I" } : Jvm.MethodName)) ∈ lw_gd := tin 632 rfl
set_option maxRecDepth 100000 in
theorem q598 : (Jvm.Cond.code ({ cls := "ArenaNetworkModel", name := "begin", desc := "(I)I" } : Jvm.MethodName) prog_7_method_13_code (2 : Nat) (Option.some Jvm.ClassFile.FieldType.int)) ∈ lw_gd := tin 633 rfl
set_option maxRecDepth 100000 in
theorem q599 : (Jvm.Cond.methodLink "ArenaNetworkModel" (96 : Nat) ({ cls := "ArenaNetworkModel", name := "end", desc := "(I)I" } : Jvm.MethodName)) ∈ lw_gd := tin 634 rfl
set_option maxRecDepth 100000 in
theorem q601 : (Jvm.Cond.instanceMethod ({ cls := "ArenaNetworkModel", name := "end", desc := "(I)I" } : Jvm.MethodName)) ∈ lw_gd := tin 636 rfl
set_option maxRecDepth 100000 in
theorem q602 : (Jvm.Cond.code ({ cls := "ArenaNetworkModel", name := "end", desc := "(I)I" } : Jvm.MethodName) prog_7_method_15_code (4 : Nat) (Option.some Jvm.ClassFile.FieldType.int)) ∈ lw_gd := tin 637 rfl
set_option maxRecDepth 100000 in
theorem q603 : (Jvm.Cond.methodLink "ArenaNetworkModel" (109 : Nat) ({ cls := "ArenaNetworkModel", name := "arena", desc := "()I" } : Jvm.MethodName)) ∈ lw_gd := tin 638 rfl
set_option maxRecDepth 100000 in
theorem q605 : (Jvm.Cond.instanceMethod ({ cls := "ArenaNetworkModel", name := "arena", desc := "()I" } : Jvm.MethodName)) ∈ lw_gd := tin 640 rfl
set_option maxRecDepth 100000 in
theorem q606 : (Jvm.Cond.code ({ cls := "ArenaNetworkModel", name := "arena", desc := "()I" } : Jvm.MethodName) prog_7_method_18_code (3 : Nat) (Option.some Jvm.ClassFile.FieldType.int)) ∈ lw_gd := tin 641 rfl
set_option maxRecDepth 100000 in
theorem q616 : (Jvm.Cond.instanceMethod ({ cls := "ArenaNetworkModel", name := "step", desc := "()I" } : Jvm.MethodName)) ∈ lw_gd := tin 651 rfl
set_option maxRecDepth 100000 in
theorem q617 : (Jvm.Cond.selects "ArenaNetworkModel" ({ cls := "ArenaNetworkModel", name := "step", desc := "()I" } : Jvm.MethodName) ({ cls := "ArenaNetworkModel", name := "step", desc := "()I" } : Jvm.MethodName)) ∈ lw_gd := tin 652 rfl
set_option maxRecDepth 100000 in
theorem q618 : (Jvm.Cond.code ({ cls := "ArenaNetworkModel", name := "step", desc := "()I" } : Jvm.MethodName) prog_7_method_28_code (3 : Nat) (Option.some Jvm.ClassFile.FieldType.int)) ∈ lw_gd := tin 653 rfl
set_option maxRecDepth 100000 in
theorem q619 : (Jvm.Cond.methodLink "ArenaNetworkModel" (134 : Nat) ({ cls := "ArenaNetworkModel", name := "made", desc := "(II)I" } : Jvm.MethodName)) ∈ lw_gd := tin 654 rfl
set_option maxRecDepth 100000 in
theorem q621 : (Jvm.Cond.instanceMethod ({ cls := "ArenaNetworkModel", name := "made", desc := "(II)I" } : Jvm.MethodName)) ∈ lw_gd := tin 656 rfl
set_option maxRecDepth 100000 in
theorem q622 : (Jvm.Cond.code ({ cls := "ArenaNetworkModel", name := "made", desc := "(II)I" } : Jvm.MethodName) prog_7_method_27_code (10 : Nat) (Option.some Jvm.ClassFile.FieldType.int)) ∈ lw_gd := tin 657 rfl
set_option maxRecDepth 100000 in
theorem q623 : (Jvm.Cond.methodLink "ArenaNetworkModel" (121 : Nat) ({ cls := "ArenaNetworkModel", name := "difference", desc := "(II)I" } : Jvm.MethodName)) ∈ lw_gd := tin 658 rfl
set_option maxRecDepth 100000 in
theorem q625 : (Jvm.Cond.instanceMethod ({ cls := "ArenaNetworkModel", name := "difference", desc := "(II)I" } : Jvm.MethodName)) ∈ lw_gd := tin 660 rfl
set_option maxRecDepth 100000 in
theorem q626 : (Jvm.Cond.code ({ cls := "ArenaNetworkModel", name := "difference", desc := "(II)I" } : Jvm.MethodName) prog_7_method_25_code (3 : Nat) (Option.some Jvm.ClassFile.FieldType.int)) ∈ lw_gd := tin 661 rfl
set_option maxRecDepth 100000 in
theorem q627 : (Jvm.Cond.methodLink "ArenaNetworkModel" (124 : Nat) ({ cls := "ArenaNetworkModel", name := "scaling", desc := "(II)I" } : Jvm.MethodName)) ∈ lw_gd := tin 662 rfl
set_option maxRecDepth 100000 in
theorem q629 : (Jvm.Cond.instanceMethod ({ cls := "ArenaNetworkModel", name := "scaling", desc := "(II)I" } : Jvm.MethodName)) ∈ lw_gd := tin 664 rfl
set_option maxRecDepth 100000 in
theorem q630 : (Jvm.Cond.code ({ cls := "ArenaNetworkModel", name := "scaling", desc := "(II)I" } : Jvm.MethodName) prog_7_method_23_code (5 : Nat) (Option.some Jvm.ClassFile.FieldType.int)) ∈ lw_gd := tin 665 rfl
set_option maxRecDepth 100000 in
theorem q631 : (Jvm.Cond.constantLong "ArenaNetworkModel" (115 : Nat) (2147483648 : Int64)) ∈ lw_gd := tin 666 rfl
set_option maxRecDepth 100000 in
theorem q632 : (Jvm.Cond.methodLink "ArenaNetworkModel" (117 : Nat) ({ cls := "ArenaNetworkModel", name := "rounded", desc := "(JJ)J" } : Jvm.MethodName)) ∈ lw_gd := tin 667 rfl
set_option maxRecDepth 100000 in
theorem q634 : (Jvm.Cond.instanceMethod ({ cls := "ArenaNetworkModel", name := "rounded", desc := "(JJ)J" } : Jvm.MethodName)) ∈ lw_gd := tin 669 rfl
set_option maxRecDepth 100000 in
theorem q635 : (Jvm.Cond.code ({ cls := "ArenaNetworkModel", name := "rounded", desc := "(JJ)J" } : Jvm.MethodName) prog_7_method_22_code (9 : Nat) (Option.some Jvm.ClassFile.FieldType.long)) ∈ lw_gd := tin 670 rfl
set_option maxRecDepth 100000 in
theorem q636 : (Jvm.Cond.constantLong "ArenaNetworkModel" (113 : Nat) (2 : Int64)) ∈ lw_gd := tin 671 rfl
set_option maxRecDepth 100000 in
theorem q637 : (Jvm.Cond.methodLink "ArenaNetworkModel" (127 : Nat) ({ cls := "ArenaNetworkModel", name := "clamped", desc := "(I)I" } : Jvm.MethodName)) ∈ lw_gd := tin 672 rfl
set_option maxRecDepth 100000 in
theorem q639 : (Jvm.Cond.instanceMethod ({ cls := "ArenaNetworkModel", name := "clamped", desc := "(I)I" } : Jvm.MethodName)) ∈ lw_gd := tin 674 rfl
set_option maxRecDepth 100000 in
theorem q640 : (Jvm.Cond.code ({ cls := "ArenaNetworkModel", name := "clamped", desc := "(I)I" } : Jvm.MethodName) prog_7_method_24_code (2 : Nat) (Option.some Jvm.ClassFile.FieldType.int)) ∈ lw_gd := tin 675 rfl
set_option maxRecDepth 100000 in
theorem q641 : (Jvm.Cond.methodLink "ArenaNetworkModel" (130 : Nat) ({ cls := "ArenaNetworkModel", name := "window", desc := "(IIIZ)I" } : Jvm.MethodName)) ∈ lw_gd := tin 676 rfl
set_option maxRecDepth 100000 in
theorem q643 : (Jvm.Cond.instanceMethod ({ cls := "ArenaNetworkModel", name := "window", desc := "(IIIZ)I" } : Jvm.MethodName)) ∈ lw_gd := tin 678 rfl
set_option maxRecDepth 100000 in
theorem q644 : (Jvm.Cond.code ({ cls := "ArenaNetworkModel", name := "window", desc := "(IIIZ)I" } : Jvm.MethodName) prog_7_method_26_code (9 : Nat) (Option.some Jvm.ClassFile.FieldType.int)) ∈ lw_gd := tin 679 rfl
set_option maxRecDepth 100000 in
theorem q649 : (Jvm.Cond.methodLink "ArenaNetworkModel" (137 : Nat) ({ cls := "ArenaNetworkModel", name := "step", desc := "()I" } : Jvm.MethodName)) ∈ lw_gd := tin 684 rfl
set_option maxRecDepth 100000 in
theorem q666 : (Jvm.Cond.constant "ArenaNetworkModel" (140 : Nat) (-16777216 : Int32)) ∈ lw_gd := tin 701 rfl
set_option maxRecDepth 100000 in
theorem q667 : (Jvm.Cond.constant "ArenaNetworkModel" (141 : Nat) (16777216 : Int32)) ∈ lw_gd := tin 702 rfl
set_option maxRecDepth 100000 in
theorem q675 : (Jvm.Cond.selects "[Ljava/lang/Object;" ({ cls := "java/lang/Object", name := "getClass", desc := "()Ljava/lang/Class;" } : Jvm.MethodName) ({ cls := "java/lang/Object", name := "getClass", desc := "()Ljava/lang/Class;" } : Jvm.MethodName)) ∈ lw_gd := tin 710 rfl
theorem p0 : Cond.selects "java/util/ArrayList" ⟨"java/util/ArrayList", "add", "(Ljava/lang/Object;[Ljava/lang/Object;I)V"⟩ ⟨"java/util/ArrayList", "add", "(Ljava/lang/Object;[Ljava/lang/Object;I)V"⟩ ∈ lw_gd := tin 0 rfl
theorem p1 : Cond.selects "java/util/ArrayList" ⟨"java/util/ArrayList", "grow", "()[Ljava/lang/Object;"⟩ ⟨"java/util/ArrayList", "grow", "()[Ljava/lang/Object;"⟩ ∈ lw_gd := tin 1 rfl
theorem p2 : Cond.selects "java/util/ArrayList" ⟨"java/util/ArrayList", "grow", "(I)[Ljava/lang/Object;"⟩ ⟨"java/util/ArrayList", "grow", "(I)[Ljava/lang/Object;"⟩ ∈ lw_gd := tin 2 rfl
theorem p3 : Cond.selects "ArenaNetwork" ⟨"ArenaNetwork", "tensorAt", "(I)LArenaNetwork$Tensor;"⟩ ⟨"ArenaNetwork", "tensorAt", "(I)LArenaNetwork$Tensor;"⟩ ∈ lw_gd := tin 3 rfl
theorem p4 : Cond.selects "ArenaNetwork" ⟨"ArenaNetwork", "firstFault", "()I"⟩ ⟨"ArenaNetwork", "firstFault", "()I"⟩ ∈ lw_gd := tin 4 rfl
theorem p5 : Cond.selects "ArenaNetwork" ⟨"ArenaNetwork", "faultOf", "(I)I"⟩ ⟨"ArenaNetwork", "faultOf", "(I)I"⟩ ∈ lw_gd := tin 5 rfl
theorem p6 : Cond.selects "ArenaNetwork" ⟨"ArenaNetwork", "isUnmadeBefore", "(ILArenaNetwork$Tensor;)Z"⟩ ⟨"ArenaNetwork", "isUnmadeBefore", "(ILArenaNetwork$Tensor;)Z"⟩ ∈ lw_gd := tin 6 rfl
theorem p7 : Cond.selects "ArenaNetwork" ⟨"ArenaNetwork", "giveLives", "()V"⟩ ⟨"ArenaNetwork", "giveLives", "()V"⟩ ∈ lw_gd := tin 7 rfl
theorem p8 : Cond.selects "ArenaNetwork$Arena" ⟨"ArenaNetwork$Arena", "put", "(LArenaNetwork$Tensor;)V"⟩ ⟨"ArenaNetwork$Arena", "put", "(LArenaNetwork$Tensor;)V"⟩ ∈ lw_gd := tin 8 rfl
theorem p9 : Cond.selects "ArenaNetwork$Arena" ⟨"ArenaNetwork$Arena", "leastPlace", "(LArenaNetwork$Tensor;)I"⟩ ⟨"ArenaNetwork$Arena", "leastPlace", "(LArenaNetwork$Tensor;)I"⟩ ∈ lw_gd := tin 9 rfl
theorem p10 : Cond.selects "ArenaNetwork$Arena" ⟨"ArenaNetwork$Arena", "isFree", "(LArenaNetwork$Tensor;I)Z"⟩ ⟨"ArenaNetwork$Arena", "isFree", "(LArenaNetwork$Tensor;I)Z"⟩ ∈ lw_gd := tin 10 rfl
theorem p11 : Cond.selects "ArenaNetwork" ⟨"ArenaNetwork", "doNext", "()V"⟩ ⟨"ArenaNetwork", "doNext", "()V"⟩ ∈ lw_gd := tin 11 rfl
theorem p12 : Cond.selects "ArenaNetwork$Operator" ⟨"ArenaNetwork$Operator", "resultCell", "(ILArenaNetwork$Scale;)I"⟩ ⟨"ArenaNetwork$Operator", "resultCell", "(ILArenaNetwork$Scale;)I"⟩ ∈ lw_gd := tin 12 rfl
theorem p13 : Cond.selects "ArenaNetwork$Operator" ⟨"ArenaNetwork$Operator", "denseSum", "(I)I"⟩ ⟨"ArenaNetwork$Operator", "denseSum", "(I)I"⟩ ∈ lw_gd := tin 13 rfl
theorem p14 : Cond.selects "ArenaNetwork$Operator" ⟨"ArenaNetwork$Operator", "clampedResult", "(I)I"⟩ ⟨"ArenaNetwork$Operator", "clampedResult", "(I)I"⟩ ∈ lw_gd := tin 14 rfl
theorem p15 : Cond.selects "ArenaNetwork$Operator" ⟨"ArenaNetwork$Operator", "greatestOfGroup", "(I)I"⟩ ⟨"ArenaNetwork$Operator", "greatestOfGroup", "(I)I"⟩ ∈ lw_gd := tin 15 rfl
theorem p16 : Cond.selects "ArenaNetwork$Operator" ⟨"ArenaNetwork$Operator", "sumOfGroup", "(I)I"⟩ ⟨"ArenaNetwork$Operator", "sumOfGroup", "(I)I"⟩ ∈ lw_gd := tin 16 rfl
theorem p17 : Cond.selects "ArenaNetwork" ⟨"ArenaNetwork", "livingTensorAt", "(I)LArenaNetwork$Tensor;"⟩ ⟨"ArenaNetwork", "livingTensorAt", "(I)LArenaNetwork$Tensor;"⟩ ∈ lw_gd := tin 17 rfl
theorem p18 : Cond.selects "ArenaNetworkModel" ⟨"ArenaNetworkModel", "noByte", "(I)Z"⟩ ⟨"ArenaNetworkModel", "noByte", "(I)Z"⟩ ∈ lw_gd := tin 18 rfl
theorem p19 : Cond.selects "ArenaNetworkModel" ⟨"ArenaNetworkModel", "noTensor", "(I)Z"⟩ ⟨"ArenaNetworkModel", "noTensor", "(I)Z"⟩ ∈ lw_gd := tin 19 rfl
theorem p20 : Cond.selects "ArenaNetworkModel" ⟨"ArenaNetworkModel", "lives", "(I)Z"⟩ ⟨"ArenaNetworkModel", "lives", "(I)Z"⟩ ∈ lw_gd := tin 20 rfl
theorem p21 : Cond.selects "ArenaNetworkModel" ⟨"ArenaNetworkModel", "maker", "(II)I"⟩ ⟨"ArenaNetworkModel", "maker", "(II)I"⟩ ∈ lw_gd := tin 21 rfl
theorem p22 : Cond.selects "ArenaNetworkModel" ⟨"ArenaNetworkModel", "fault", "(I)I"⟩ ⟨"ArenaNetworkModel", "fault", "(I)I"⟩ ∈ lw_gd := tin 22 rfl
theorem p23 : Cond.selects "ArenaNetworkModel" ⟨"ArenaNetworkModel", "unmade", "(II)Z"⟩ ⟨"ArenaNetworkModel", "unmade", "(II)Z"⟩ ∈ lw_gd := tin 23 rfl
theorem p24 : Cond.selects "ArenaNetworkModel" ⟨"ArenaNetworkModel", "fits", "(I)Z"⟩ ⟨"ArenaNetworkModel", "fits", "(I)Z"⟩ ∈ lw_gd := tin 24 rfl
theorem p25 : Cond.selects "ArenaNetworkModel" ⟨"ArenaNetworkModel", "apart", "(III)Z"⟩ ⟨"ArenaNetworkModel", "apart", "(III)Z"⟩ ∈ lw_gd := tin 25 rfl
theorem p26 : Cond.selects "ArenaNetworkModel" ⟨"ArenaNetworkModel", "begin", "(I)I"⟩ ⟨"ArenaNetworkModel", "begin", "(I)I"⟩ ∈ lw_gd := tin 26 rfl
theorem p27 : Cond.selects "ArenaNetworkModel" ⟨"ArenaNetworkModel", "end", "(I)I"⟩ ⟨"ArenaNetworkModel", "end", "(I)I"⟩ ∈ lw_gd := tin 27 rfl
theorem p28 : Cond.selects "ArenaNetworkModel" ⟨"ArenaNetworkModel", "arena", "()I"⟩ ⟨"ArenaNetworkModel", "arena", "()I"⟩ ∈ lw_gd := tin 28 rfl
theorem p29 : Cond.selects "ArenaNetworkModel" ⟨"ArenaNetworkModel", "made", "(II)I"⟩ ⟨"ArenaNetworkModel", "made", "(II)I"⟩ ∈ lw_gd := tin 29 rfl
theorem p30 : Cond.selects "ArenaNetworkModel" ⟨"ArenaNetworkModel", "difference", "(II)I"⟩ ⟨"ArenaNetworkModel", "difference", "(II)I"⟩ ∈ lw_gd := tin 30 rfl
theorem p31 : Cond.selects "ArenaNetworkModel" ⟨"ArenaNetworkModel", "scaling", "(II)I"⟩ ⟨"ArenaNetworkModel", "scaling", "(II)I"⟩ ∈ lw_gd := tin 31 rfl
theorem p32 : Cond.selects "ArenaNetworkModel" ⟨"ArenaNetworkModel", "rounded", "(JJ)J"⟩ ⟨"ArenaNetworkModel", "rounded", "(JJ)J"⟩ ∈ lw_gd := tin 32 rfl
theorem p33 : Cond.selects "ArenaNetworkModel" ⟨"ArenaNetworkModel", "clamped", "(I)I"⟩ ⟨"ArenaNetworkModel", "clamped", "(I)I"⟩ ∈ lw_gd := tin 33 rfl
theorem p34 : Cond.selects "ArenaNetworkModel" ⟨"ArenaNetworkModel", "window", "(IIIZ)I"⟩ ⟨"ArenaNetworkModel", "window", "(IIIZ)I"⟩ ∈ lw_gd := tin 34 rfl
theorem cAs_of {C : xC} {cc : ByteArray} {nL : Nat} {own : String} (hC : okC C cc nL own lw_gd) : cAs C.2.2.2.2.1 := by
  have hK := hC.K
  intro t ci q E h1 h2 h3 comp c0 h4 h5
  have hca : ∀ x : String, Cond.castable x "java/lang/Object" ∈ lw_ex → q.1 = x → E = "java/lang/Object" → C.2.2.2.2.1.vm.assignable c0 comp = true := by
    intro x hx e1 e2
    subst e1 e2
    obtain ⟨d0, t0, f1, f2, f3⟩ := Cond.castable_spec (va_Nw.use (A := #[]) rfl (hK.2.2 _ hx))
    cases h4.symm.trans f2
    cases h5.symm.trans f1
    exact f3
  unfold aOk at h1
  simp only [Bool.or_eq_true, Bool.and_eq_true, beq_iff_eq] at h1
  rcases h1 with ⟨rfl, rfl | rfl⟩ | ⟨rfl, rfl⟩
  · cases h3
    exact hca _ x682 rfl (by cases h2; rfl)
  · cases h3
    exact hca _ x681 rfl (by cases h2; rfl)
  · cases h3
    cases h2
    have hcl := (hK.1.1 3 _ rfl).2
    cases h4.symm.trans h5
    have e := Option.some.inj (h4.symm.trans hcl.1)
    rw [e]
    exact va_assign hcl
end
section
abbrev yC_init : MethodName := ⟨"java/util/AbstractCollection", "<init>", "()V"⟩
abbrev rmC_init : Room := { frames := 1, cells := 0, slots := 0, locals := 20 }
theorem ykC_init : yOk yC_init 0 := by decide +kernel
theorem dC_init_0 : decode prog_13_method_1_code 0 = .ok (.aload_n 0, 1) := by decide +kernel
theorem dC_init_1 : decode prog_13_method_1_code 1 = .ok (.invokespecial 1, 3) := by decide +kernel
theorem dC_init_4 : decode prog_13_method_1_code 4 = .ok (.return_, 1) := by decide +kernel
abbrev yB_init : MethodName := ⟨"java/util/AbstractList", "<init>", "()V"⟩
abbrev rmB_init : Room := { frames := 2, cells := 0, slots := 0, locals := 40 }
theorem ykB_init : yOk yB_init 0 := by decide +kernel
theorem dB_init_0 : decode prog_14_method_1_code 0 = .ok (.aload_n 0, 1) := by decide +kernel
theorem dB_init_1 : decode prog_14_method_1_code 1 = .ok (.invokespecial 1, 3) := by decide +kernel
theorem dB_init_4 : decode prog_14_method_1_code 4 = .ok (.aload_n 0, 1) := by decide +kernel
theorem dB_init_5 : decode prog_14_method_1_code 5 = .ok (.iconst (0), 1) := by decide +kernel
theorem dB_init_6 : decode prog_14_method_1_code 6 = .ok (.putfield 7, 3) := by decide +kernel
theorem dB_init_9 : decode prog_14_method_1_code 9 = .ok (.return_, 1) := by decide +kernel
abbrev yL_init : MethodName := ⟨"java/util/ArrayList", "<init>", "()V"⟩
abbrev rmL_init : Room := { frames := 3, cells := 0, slots := 0, locals := 60 }
theorem ykL_init : yOk yL_init 0 := by decide +kernel
theorem dL_init_0 : decode prog_15_method_2_code 0 = .ok (.aload_n 0, 1) := by decide +kernel
theorem dL_init_1 : decode prog_15_method_2_code 1 = .ok (.invokespecial 1, 3) := by decide +kernel
theorem dL_init_4 : decode prog_15_method_2_code 4 = .ok (.aload_n 0, 1) := by decide +kernel
theorem dL_init_5 : decode prog_15_method_2_code 5 = .ok (.getstatic 39, 3) := by decide +kernel
theorem dL_init_8 : decode prog_15_method_2_code 8 = .ok (.putfield 9, 3) := by decide +kernel
theorem dL_init_11 : decode prog_15_method_2_code 11 = .ok (.return_, 1) := by decide +kernel
abbrev yL_size : MethodName := ⟨"java/util/ArrayList", "size", "()I"⟩
abbrev rmL_size : Room := { frames := 0, cells := 0, slots := 0, locals := 0 }
theorem ykL_size : yOk yL_size 0 := by decide +kernel
theorem dL_size_0 : decode prog_15_method_8_code 0 = .ok (.aload_n 0, 1) := by decide +kernel
theorem dL_size_1 : decode prog_15_method_8_code 1 = .ok (.getfield 48, 3) := by decide +kernel
theorem dL_size_4 : decode prog_15_method_8_code 4 = .ok (.ireturn, 1) := by decide +kernel
abbrev yP_checkIndex : MethodName := ⟨"jdk/internal/util/Preconditions", "checkIndex", "(IILjava/util/function/BiFunction;)I"⟩
abbrev rmP_checkIndex : Room := { frames := 0, cells := 0, slots := 0, locals := 0 }
theorem ykP_checkIndex : yOk yP_checkIndex 3 := by decide +kernel
theorem dP_checkIndex_0 : decode prog_23_method_11_code 0 = .ok (.iload_n 0, 1) := by decide +kernel
theorem dP_checkIndex_1 : decode prog_23_method_11_code 1 = .ok (.ifCond .lt (8), 3) := by decide +kernel
theorem dP_checkIndex_4 : decode prog_23_method_11_code 4 = .ok (.iload_n 0, 1) := by decide +kernel
theorem dP_checkIndex_5 : decode prog_23_method_11_code 5 = .ok (.iload_n 1, 1) := by decide +kernel
theorem dP_checkIndex_6 : decode prog_23_method_11_code 6 = .ok (.if_icmp .lt (10), 3) := by decide +kernel
theorem dP_checkIndex_9 : decode prog_23_method_11_code 9 = .ok (.aload_n 2, 1) := by decide +kernel
theorem dP_checkIndex_16 : decode prog_23_method_11_code 16 = .ok (.iload_n 0, 1) := by decide +kernel
theorem dP_checkIndex_17 : decode prog_23_method_11_code 17 = .ok (.ireturn, 1) := by decide +kernel
abbrev yJ_checkIndex : MethodName := ⟨"java/util/Objects", "checkIndex", "(II)I"⟩
abbrev rmJ_checkIndex : Room := { frames := 1, cells := 0, slots := 0, locals := 22 }
theorem ykJ_checkIndex : yOk yJ_checkIndex 2 := by decide +kernel
theorem dJ_checkIndex_0 : decode prog_19_method_17_code 0 = .ok (.iload_n 0, 1) := by decide +kernel
theorem dJ_checkIndex_1 : decode prog_19_method_17_code 1 = .ok (.iload_n 1, 1) := by decide +kernel
theorem dJ_checkIndex_2 : decode prog_19_method_17_code 2 = .ok (.aconst_null, 1) := by decide +kernel
theorem dJ_checkIndex_3 : decode prog_19_method_17_code 3 = .ok (.invokestatic 105, 3) := by decide +kernel
theorem dJ_checkIndex_6 : decode prog_19_method_17_code 6 = .ok (.ireturn, 1) := by decide +kernel
abbrev yL_elementData : MethodName := ⟨"java/util/ArrayList", "elementData", "(I)Ljava/lang/Object;"⟩
abbrev rmL_elementData : Room := { frames := 0, cells := 0, slots := 0, locals := 0 }
theorem ykL_elementData : yOk yL_elementData 1 := by decide +kernel
theorem dL_elementData_0 : decode prog_15_method_18_code 0 = .ok (.aload_n 0, 1) := by decide +kernel
theorem dL_elementData_1 : decode prog_15_method_18_code 1 = .ok (.getfield 9, 3) := by decide +kernel
theorem dL_elementData_4 : decode prog_15_method_18_code 4 = .ok (.iload_n 1, 1) := by decide +kernel
theorem dL_elementData_5 : decode prog_15_method_18_code 5 = .ok (.aaload, 1) := by decide +kernel
theorem dL_elementData_6 : decode prog_15_method_18_code 6 = .ok (.areturn, 1) := by decide +kernel
abbrev yL_get : MethodName := ⟨"java/util/ArrayList", "get", "(I)Ljava/lang/Object;"⟩
abbrev rmL_get : Room := { frames := 2, cells := 0, slots := 0, locals := 43 }
theorem ykL_get : yOk yL_get 1 := by decide +kernel
theorem dL_get_0 : decode prog_15_method_20_code 0 = .ok (.iload_n 1, 1) := by decide +kernel
theorem dL_get_1 : decode prog_15_method_20_code 1 = .ok (.aload_n 0, 1) := by decide +kernel
theorem dL_get_2 : decode prog_15_method_20_code 2 = .ok (.getfield 48, 3) := by decide +kernel
theorem dL_get_5 : decode prog_15_method_20_code 5 = .ok (.invokestatic 118, 3) := by decide +kernel
theorem dL_get_8 : decode prog_15_method_20_code 8 = .ok (.pop, 1) := by decide +kernel
theorem dL_get_9 : decode prog_15_method_20_code 9 = .ok (.aload_n 0, 1) := by decide +kernel
theorem dL_get_10 : decode prog_15_method_20_code 10 = .ok (.iload_n 1, 1) := by decide +kernel
theorem dL_get_11 : decode prog_15_method_20_code 11 = .ok (.invokevirtual 123, 3) := by decide +kernel
theorem dL_get_14 : decode prog_15_method_20_code 14 = .ok (.areturn, 1) := by decide +kernel
abbrev yU_newLength : MethodName := ⟨"jdk/internal/util/ArraysSupport", "newLength", "(III)I"⟩
abbrev rmU_newLength : Room := { frames := 1, cells := 0, slots := 0, locals := 21 }
theorem ykU_newLength : yOk yU_newLength 3 := by decide +kernel
theorem dU_newLength_0 : decode prog_22_method_27_code 0 = .ok (.iload_n 0, 1) := by decide +kernel
theorem dU_newLength_1 : decode prog_22_method_27_code 1 = .ok (.iload_n 1, 1) := by decide +kernel
theorem dU_newLength_2 : decode prog_22_method_27_code 2 = .ok (.iload_n 2, 1) := by decide +kernel
theorem dU_newLength_3 : decode prog_22_method_27_code 3 = .ok (.invokestatic 194, 3) := by decide +kernel
theorem dU_newLength_6 : decode prog_22_method_27_code 6 = .ok (.iadd, 1) := by decide +kernel
theorem dU_newLength_7 : decode prog_22_method_27_code 7 = .ok (.istore_n 3, 1) := by decide +kernel
theorem dU_newLength_8 : decode prog_22_method_27_code 8 = .ok (.iconst (0), 1) := by decide +kernel
theorem dU_newLength_9 : decode prog_22_method_27_code 9 = .ok (.iload_n 3, 1) := by decide +kernel
theorem dU_newLength_10 : decode prog_22_method_27_code 10 = .ok (.if_icmp .ge (11), 3) := by decide +kernel
theorem dU_newLength_13 : decode prog_22_method_27_code 13 = .ok (.iload_n 3, 1) := by decide +kernel
theorem dU_newLength_14 : decode prog_22_method_27_code 14 = .ok (.ldc 200, 2) := by decide +kernel
theorem dU_newLength_16 : decode prog_22_method_27_code 16 = .ok (.if_icmp .gt (5), 3) := by decide +kernel
theorem dU_newLength_19 : decode prog_22_method_27_code 19 = .ok (.iload_n 3, 1) := by decide +kernel
theorem dU_newLength_20 : decode prog_22_method_27_code 20 = .ok (.ireturn, 1) := by decide +kernel
theorem dU_newLength_21 : decode prog_22_method_27_code 21 = .ok (.iload_n 0, 1) := by decide +kernel
theorem dU_newLength_22 : decode prog_22_method_27_code 22 = .ok (.iload_n 1, 1) := by decide +kernel
theorem dU_newLength_23 : decode prog_22_method_27_code 23 = .ok (.invokestatic 201, 3) := by decide +kernel
abbrev yY_copyOf : MethodName := ⟨"java/util/Arrays", "copyOf", "([Ljava/lang/Object;ILjava/lang/Class;)[Ljava/lang/Object;"⟩
abbrev rmY_copyOf : Room := { frames := 1, cells := 1, slots := 33, locals := 40 }
theorem ykY_copyOf : yOk yY_copyOf 3 := by decide +kernel
theorem dY_copyOf_0 : decode prog_16_method_120_code 0 = .ok (.aload_n 2, 1) := by decide +kernel
theorem dY_copyOf_1 : decode prog_16_method_120_code 1 = .ok (.ldc 110, 2) := by decide +kernel
theorem dY_copyOf_3 : decode prog_16_method_120_code 3 = .ok (.if_acmp .ne (10), 3) := by decide +kernel
theorem dY_copyOf_6 : decode prog_16_method_120_code 6 = .ok (.iload_n 1, 1) := by decide +kernel
theorem dY_copyOf_7 : decode prog_16_method_120_code 7 = .ok (.anewarray 2, 3) := by decide +kernel
theorem dY_copyOf_10 : decode prog_16_method_120_code 10 = .ok (.goto (14), 3) := by decide +kernel
theorem dY_copyOf_13 : decode prog_16_method_120_code 13 = .ok (.aload_n 2, 1) := by decide +kernel
theorem dY_copyOf_14 : decode prog_16_method_120_code 14 = .ok (.invokevirtual 90, 3) := by decide +kernel
theorem dY_copyOf_24 : decode prog_16_method_120_code 24 = .ok (.astore_n 3, 1) := by decide +kernel
theorem dY_copyOf_25 : decode prog_16_method_120_code 25 = .ok (.aload_n 0, 1) := by decide +kernel
theorem dY_copyOf_26 : decode prog_16_method_120_code 26 = .ok (.iconst (0), 1) := by decide +kernel
theorem dY_copyOf_27 : decode prog_16_method_120_code 27 = .ok (.aload_n 3, 1) := by decide +kernel
theorem dY_copyOf_28 : decode prog_16_method_120_code 28 = .ok (.iconst (0), 1) := by decide +kernel
theorem dY_copyOf_29 : decode prog_16_method_120_code 29 = .ok (.aload_n 0, 1) := by decide +kernel
theorem dY_copyOf_30 : decode prog_16_method_120_code 30 = .ok (.arraylength, 1) := by decide +kernel
theorem dY_copyOf_31 : decode prog_16_method_120_code 31 = .ok (.iload_n 1, 1) := by decide +kernel
theorem dY_copyOf_32 : decode prog_16_method_120_code 32 = .ok (.invokestatic 304, 3) := by decide +kernel
theorem dY_copyOf_35 : decode prog_16_method_120_code 35 = .ok (.invokestatic 150, 3) := by decide +kernel
theorem dY_copyOf_38 : decode prog_16_method_120_code 38 = .ok (.aload_n 3, 1) := by decide +kernel
theorem dY_copyOf_39 : decode prog_16_method_120_code 39 = .ok (.areturn, 1) := by decide +kernel
abbrev yY_copyOf2 : MethodName := ⟨"java/util/Arrays", "copyOf", "([Ljava/lang/Object;I)[Ljava/lang/Object;"⟩
abbrev rmY_copyOf2 : Room := { frames := 2, cells := 1, slots := 33, locals := 63 }
theorem ykY_copyOf2 : yOk yY_copyOf2 2 := by decide +kernel
theorem dY_copyOf2_0 : decode prog_16_method_119_code 0 = .ok (.aload_n 0, 1) := by decide +kernel
theorem dY_copyOf2_1 : decode prog_16_method_119_code 1 = .ok (.iload_n 1, 1) := by decide +kernel
theorem dY_copyOf2_2 : decode prog_16_method_119_code 2 = .ok (.aload_n 0, 1) := by decide +kernel
theorem dY_copyOf2_3 : decode prog_16_method_119_code 3 = .ok (.invokevirtual 86, 3) := by decide +kernel
theorem dY_copyOf2_6 : decode prog_16_method_119_code 6 = .ok (.invokestatic 300, 3) := by decide +kernel
theorem dY_copyOf2_9 : decode prog_16_method_119_code 9 = .ok (.areturn, 1) := by decide +kernel
abbrev yL_grow : MethodName := ⟨"java/util/ArrayList", "grow", "(I)[Ljava/lang/Object;"⟩
abbrev rmL_grow : Room := { frames := 3, cells := 1, slots := 33, locals := 84 }
theorem ykL_grow : yOk yL_grow 1 := by decide +kernel
theorem dL_grow_0 : decode prog_15_method_6_code 0 = .ok (.aload_n 0, 1) := by decide +kernel
theorem dL_grow_1 : decode prog_15_method_6_code 1 = .ok (.getfield 9, 3) := by decide +kernel
theorem dL_grow_4 : decode prog_15_method_6_code 4 = .ok (.arraylength, 1) := by decide +kernel
theorem dL_grow_5 : decode prog_15_method_6_code 5 = .ok (.istore_n 2, 1) := by decide +kernel
theorem dL_grow_6 : decode prog_15_method_6_code 6 = .ok (.iload_n 2, 1) := by decide +kernel
theorem dL_grow_7 : decode prog_15_method_6_code 7 = .ok (.ifCond .gt (13), 3) := by decide +kernel
theorem dL_grow_10 : decode prog_15_method_6_code 10 = .ok (.aload_n 0, 1) := by decide +kernel
theorem dL_grow_11 : decode prog_15_method_6_code 11 = .ok (.getfield 9, 3) := by decide +kernel
theorem dL_grow_14 : decode prog_15_method_6_code 14 = .ok (.getstatic 39, 3) := by decide +kernel
theorem dL_grow_17 : decode prog_15_method_6_code 17 = .ok (.if_acmp .eq (28), 3) := by decide +kernel
theorem dL_grow_20 : decode prog_15_method_6_code 20 = .ok (.iload_n 2, 1) := by decide +kernel
theorem dL_grow_21 : decode prog_15_method_6_code 21 = .ok (.iload_n 1, 1) := by decide +kernel
theorem dL_grow_22 : decode prog_15_method_6_code 22 = .ok (.iload_n 2, 1) := by decide +kernel
theorem dL_grow_23 : decode prog_15_method_6_code 23 = .ok (.isub, 1) := by decide +kernel
theorem dL_grow_24 : decode prog_15_method_6_code 24 = .ok (.iload_n 2, 1) := by decide +kernel
theorem dL_grow_25 : decode prog_15_method_6_code 25 = .ok (.iconst (1), 1) := by decide +kernel
theorem dL_grow_26 : decode prog_15_method_6_code 26 = .ok (.ishr, 1) := by decide +kernel
theorem dL_grow_27 : decode prog_15_method_6_code 27 = .ok (.invokestatic 73, 3) := by decide +kernel
theorem dL_grow_30 : decode prog_15_method_6_code 30 = .ok (.istore_n 3, 1) := by decide +kernel
theorem dL_grow_31 : decode prog_15_method_6_code 31 = .ok (.aload_n 0, 1) := by decide +kernel
theorem dL_grow_32 : decode prog_15_method_6_code 32 = .ok (.aload_n 0, 1) := by decide +kernel
theorem dL_grow_33 : decode prog_15_method_6_code 33 = .ok (.getfield 9, 3) := by decide +kernel
theorem dL_grow_36 : decode prog_15_method_6_code 36 = .ok (.iload_n 3, 1) := by decide +kernel
theorem dL_grow_37 : decode prog_15_method_6_code 37 = .ok (.invokestatic 66, 3) := by decide +kernel
theorem dL_grow_40 : decode prog_15_method_6_code 40 = .ok (.dup_x1, 1) := by decide +kernel
theorem dL_grow_41 : decode prog_15_method_6_code 41 = .ok (.putfield 9, 3) := by decide +kernel
theorem dL_grow_44 : decode prog_15_method_6_code 44 = .ok (.areturn, 1) := by decide +kernel
theorem dL_grow_45 : decode prog_15_method_6_code 45 = .ok (.aload_n 0, 1) := by decide +kernel
theorem dL_grow_46 : decode prog_15_method_6_code 46 = .ok (.bipush (10), 2) := by decide +kernel
theorem dL_grow_48 : decode prog_15_method_6_code 48 = .ok (.iload_n 1, 1) := by decide +kernel
theorem dL_grow_49 : decode prog_15_method_6_code 49 = .ok (.invokestatic 79, 3) := by decide +kernel
theorem dL_grow_52 : decode prog_15_method_6_code 52 = .ok (.anewarray 7, 3) := by decide +kernel
theorem dL_grow_55 : decode prog_15_method_6_code 55 = .ok (.dup_x1, 1) := by decide +kernel
theorem dL_grow_56 : decode prog_15_method_6_code 56 = .ok (.putfield 9, 3) := by decide +kernel
theorem dL_grow_59 : decode prog_15_method_6_code 59 = .ok (.areturn, 1) := by decide +kernel
abbrev yL_grow2 : MethodName := ⟨"java/util/ArrayList", "grow", "()[Ljava/lang/Object;"⟩
abbrev rmL_grow2 : Room := { frames := 4, cells := 1, slots := 33, locals := 107 }
theorem ykL_grow2 : yOk yL_grow2 0 := by decide +kernel
theorem dL_grow2_0 : decode prog_15_method_7_code 0 = .ok (.aload_n 0, 1) := by decide +kernel
theorem dL_grow2_1 : decode prog_15_method_7_code 1 = .ok (.aload_n 0, 1) := by decide +kernel
theorem dL_grow2_2 : decode prog_15_method_7_code 2 = .ok (.getfield 48, 3) := by decide +kernel
theorem dL_grow2_5 : decode prog_15_method_7_code 5 = .ok (.iconst (1), 1) := by decide +kernel
theorem dL_grow2_6 : decode prog_15_method_7_code 6 = .ok (.iadd, 1) := by decide +kernel
theorem dL_grow2_7 : decode prog_15_method_7_code 7 = .ok (.invokevirtual 69, 3) := by decide +kernel
theorem dL_grow2_10 : decode prog_15_method_7_code 10 = .ok (.areturn, 1) := by decide +kernel
abbrev yL_add : MethodName := ⟨"java/util/ArrayList", "add", "(Ljava/lang/Object;[Ljava/lang/Object;I)V"⟩
abbrev rmL_add : Room := { frames := 5, cells := 1, slots := 33, locals := 127 }
theorem ykL_add : yOk yL_add 3 := by decide +kernel
theorem dL_add_0 : decode prog_15_method_24_code 0 = .ok (.iload_n 3, 1) := by decide +kernel
theorem dL_add_1 : decode prog_15_method_24_code 1 = .ok (.aload_n 2, 1) := by decide +kernel
theorem dL_add_2 : decode prog_15_method_24_code 2 = .ok (.arraylength, 1) := by decide +kernel
theorem dL_add_3 : decode prog_15_method_24_code 3 = .ok (.if_icmp .ne (8), 3) := by decide +kernel
theorem dL_add_6 : decode prog_15_method_24_code 6 = .ok (.aload_n 0, 1) := by decide +kernel
theorem dL_add_7 : decode prog_15_method_24_code 7 = .ok (.invokevirtual 129, 3) := by decide +kernel
theorem dL_add_10 : decode prog_15_method_24_code 10 = .ok (.astore_n 2, 1) := by decide +kernel
theorem dL_add_11 : decode prog_15_method_24_code 11 = .ok (.aload_n 2, 1) := by decide +kernel
theorem dL_add_12 : decode prog_15_method_24_code 12 = .ok (.iload_n 3, 1) := by decide +kernel
theorem dL_add_13 : decode prog_15_method_24_code 13 = .ok (.aload_n 1, 1) := by decide +kernel
theorem dL_add_14 : decode prog_15_method_24_code 14 = .ok (.aastore, 1) := by decide +kernel
theorem dL_add_15 : decode prog_15_method_24_code 15 = .ok (.aload_n 0, 1) := by decide +kernel
theorem dL_add_16 : decode prog_15_method_24_code 16 = .ok (.iload_n 3, 1) := by decide +kernel
theorem dL_add_17 : decode prog_15_method_24_code 17 = .ok (.iconst (1), 1) := by decide +kernel
theorem dL_add_18 : decode prog_15_method_24_code 18 = .ok (.iadd, 1) := by decide +kernel
theorem dL_add_19 : decode prog_15_method_24_code 19 = .ok (.putfield 48, 3) := by decide +kernel
theorem dL_add_22 : decode prog_15_method_24_code 22 = .ok (.return_, 1) := by decide +kernel
abbrev yL_add2 : MethodName := ⟨"java/util/ArrayList", "add", "(Ljava/lang/Object;)Z"⟩
abbrev rmL_add2 : Room := { frames := 6, cells := 1, slots := 33, locals := 150 }
theorem ykL_add2 : yOk yL_add2 1 := by decide +kernel
theorem dL_add2_0 : decode prog_15_method_25_code 0 = .ok (.aload_n 0, 1) := by decide +kernel
theorem dL_add2_1 : decode prog_15_method_25_code 1 = .ok (.dup, 1) := by decide +kernel
theorem dL_add2_2 : decode prog_15_method_25_code 2 = .ok (.getfield 63, 3) := by decide +kernel
theorem dL_add2_5 : decode prog_15_method_25_code 5 = .ok (.iconst (1), 1) := by decide +kernel
theorem dL_add2_6 : decode prog_15_method_25_code 6 = .ok (.iadd, 1) := by decide +kernel
theorem dL_add2_7 : decode prog_15_method_25_code 7 = .ok (.putfield 63, 3) := by decide +kernel
theorem dL_add2_10 : decode prog_15_method_25_code 10 = .ok (.aload_n 0, 1) := by decide +kernel
theorem dL_add2_11 : decode prog_15_method_25_code 11 = .ok (.aload_n 1, 1) := by decide +kernel
theorem dL_add2_12 : decode prog_15_method_25_code 12 = .ok (.aload_n 0, 1) := by decide +kernel
theorem dL_add2_13 : decode prog_15_method_25_code 13 = .ok (.getfield 9, 3) := by decide +kernel
theorem dL_add2_16 : decode prog_15_method_25_code 16 = .ok (.aload_n 0, 1) := by decide +kernel
theorem dL_add2_17 : decode prog_15_method_25_code 17 = .ok (.getfield 48, 3) := by decide +kernel
theorem dL_add2_20 : decode prog_15_method_25_code 20 = .ok (.invokevirtual 131, 3) := by decide +kernel
theorem dL_add2_23 : decode prog_15_method_25_code 23 = .ok (.iconst (1), 1) := by decide +kernel
theorem dL_add2_24 : decode prog_15_method_25_code 24 = .ok (.ireturn, 1) := by decide +kernel
abbrev yL_clear : MethodName := ⟨"java/util/ArrayList", "clear", "()V"⟩
abbrev rmL_clear : Room := { frames := 0, cells := 0, slots := 0, locals := 0 }
theorem ykL_clear : yOk yL_clear 0 := by decide +kernel
theorem dL_clear_0 : decode prog_15_method_40_code 0 = .ok (.aload_n 0, 1) := by decide +kernel
theorem dL_clear_1 : decode prog_15_method_40_code 1 = .ok (.dup, 1) := by decide +kernel
theorem dL_clear_2 : decode prog_15_method_40_code 2 = .ok (.getfield 63, 3) := by decide +kernel
theorem dL_clear_5 : decode prog_15_method_40_code 5 = .ok (.iconst (1), 1) := by decide +kernel
theorem dL_clear_6 : decode prog_15_method_40_code 6 = .ok (.iadd, 1) := by decide +kernel
theorem dL_clear_7 : decode prog_15_method_40_code 7 = .ok (.putfield 63, 3) := by decide +kernel
theorem dL_clear_10 : decode prog_15_method_40_code 10 = .ok (.aload_n 0, 1) := by decide +kernel
theorem dL_clear_11 : decode prog_15_method_40_code 11 = .ok (.getfield 9, 3) := by decide +kernel
theorem dL_clear_14 : decode prog_15_method_40_code 14 = .ok (.astore_n 1, 1) := by decide +kernel
theorem dL_clear_15 : decode prog_15_method_40_code 15 = .ok (.aload_n 0, 1) := by decide +kernel
theorem dL_clear_16 : decode prog_15_method_40_code 16 = .ok (.getfield 48, 3) := by decide +kernel
theorem dL_clear_19 : decode prog_15_method_40_code 19 = .ok (.istore_n 2, 1) := by decide +kernel
theorem dL_clear_20 : decode prog_15_method_40_code 20 = .ok (.aload_n 0, 1) := by decide +kernel
theorem dL_clear_21 : decode prog_15_method_40_code 21 = .ok (.iconst (0), 1) := by decide +kernel
theorem dL_clear_22 : decode prog_15_method_40_code 22 = .ok (.dup_x1, 1) := by decide +kernel
theorem dL_clear_23 : decode prog_15_method_40_code 23 = .ok (.putfield 48, 3) := by decide +kernel
theorem dL_clear_26 : decode prog_15_method_40_code 26 = .ok (.istore_n 3, 1) := by decide +kernel
theorem dL_clear_27 : decode prog_15_method_40_code 27 = .ok (.iload_n 3, 1) := by decide +kernel
theorem dL_clear_28 : decode prog_15_method_40_code 28 = .ok (.iload_n 2, 1) := by decide +kernel
theorem dL_clear_29 : decode prog_15_method_40_code 29 = .ok (.if_icmp .ge (13), 3) := by decide +kernel
theorem dL_clear_32 : decode prog_15_method_40_code 32 = .ok (.aload_n 1, 1) := by decide +kernel
theorem dL_clear_33 : decode prog_15_method_40_code 33 = .ok (.iload_n 3, 1) := by decide +kernel
theorem dL_clear_34 : decode prog_15_method_40_code 34 = .ok (.aconst_null, 1) := by decide +kernel
theorem dL_clear_35 : decode prog_15_method_40_code 35 = .ok (.aastore, 1) := by decide +kernel
theorem dL_clear_36 : decode prog_15_method_40_code 36 = .ok (.iinc 3 (1), 3) := by decide +kernel
theorem dL_clear_39 : decode prog_15_method_40_code 39 = .ok (.goto (-12), 3) := by decide +kernel
theorem dL_clear_42 : decode prog_15_method_40_code 42 = .ok (.return_, 1) := by decide +kernel
def fC_init (b : Nat)  (w : cW) : Option (Unit × cW) :=
  some ((), w)
def fB_init (b : Nat)  (w : cW) : Option (Unit × cW) :=
  cbd (fC_init b w) fun _ w2 =>
  (pI w2 (some b) 6 2 (0 : Int32)).bind fun w3 =>
  some ((), w3)
def fL_init (b : Nat)  (w : cW) : Option (Unit × cW) :=
  cbd (fB_init b w) fun _ w2 =>
  (pQ w2 (some b) 6 0 (some w2.2.2.1)).bind fun w3 =>
  some ((), w3)
def fL_size (b : Nat)  (w : cW) : Option (Int32 × cW) :=
  (gI w (some b) 6 1).bind fun x1 =>
  some (x1, w)
def fP_checkIndex  (a0 : Int32) (a1 : Int32) (w : cW) : Option (Int32 × cW) :=
  if a0 < 0 then (
    none) else
  if a0 < a1 then (
    some (a0, w)) else
  none
def fJ_checkIndex  (a0 : Int32) (a1 : Int32) (w : cW) : Option (Int32 × cW) :=
  cbd (fP_checkIndex a0 a1 w) fun x1 w2 =>
  some (x1, w2)
def fL_elementData (b : Nat) (a1 : Int32) (w : cW) : Option (Option Nat × cW) :=
  (gQ w (some b) 6 0).bind fun r1 =>
  (ldQ w r1 a1).bind fun r2 =>
  some (r2, w)
def fL_get (b : Nat) (a1 : Int32) (w : cW) : Option (Option Nat × cW) :=
  (gI w (some b) 6 1).bind fun x1 =>
  cbd (fJ_checkIndex a1 x1 w) fun x2 w3 =>
  (cRcv w3 (some b) 6).bind fun b6 => cbd (fL_elementData b6 a1 w3) fun r4 w5 =>
  some (r4, w5)
def fU_newLength  (a0 : Int32) (a1 : Int32) (a2 : Int32) (w : cW) : Option (Int32 × cW) :=
  bnd (a0 + (if a1 < a2 then a2 else a1)) fun x1 =>
  if x1 ≤ (0 : Int32) then (
    none) else
  if (2147483639 : Int32) < x1 then (
    none) else
  some (x1, w)
def fY_copyOf  (a0 : Nat) (a1 : Int32) (a2 : Nat) (w : cW) : Option (Option Nat × cW) :=
  if (some a2) = (some w.2.2.2) then (
    (alQ w 2 a1 33).bind fun w1 =>
    (aLen w1 (some a0)).bind fun x2 =>
    (cpQ w1 (some a0) (0 : Int32) (some w.2.1) (0 : Int32) (if a1 < x2 then a1 else x2)).bind fun w3 =>
    some ((some w.2.1), w3)) else
  none
def fY_copyOf2  (a0 : Nat) (a1 : Int32) (w : cW) : Option (Option Nat × cW) :=
  (cGC w (some a0)).bind fun _ =>
  cbd (fY_copyOf a0 a1 w.2.2.2 w) fun r1 w2 =>
  some (r1, w2)
def fL_grow_b20 (b : Nat)  (a1 : Int32) (a2 : Int32) (c : Nat) (w : cW) : Option (Option Nat × cW) :=
  if c < 2 then (
  cbd (fU_newLength a2 (a1 - a2) (a2 >>> ((1 : Int32) &&& 31)) w) fun x1 w2 =>
  (gQ w2 (some b) 6 0).bind fun r4 =>
  r4.bind fun b5 =>
  if c < 1 then (
  cbd (fY_copyOf2 b5 x1 w2) fun r6 w7 =>
  (pQ w7 (some b) 6 0 r6).bind fun w9 =>
  if (c + 1) < 2 then (
  some (r6, w9)) else none) else none) else none
def fL_grow (b : Nat) (a1 : Int32) (w : cW) : Option (Option Nat × cW) :=
  (gQ w (some b) 6 0).bind fun r1 =>
  (aLen w r1).bind fun x2 =>
  if 0 < x2 then (
    fL_grow_b20 b a1 x2 (0) w) else
  (gQ w (some b) 6 0).bind fun r3 =>
  if r3 = (some w.2.2.1) then (
    (alQ w 2 (if (10 : Int32) < a1 then a1 else (10 : Int32)) 33).bind fun w4 =>
    (pQ w4 (some b) 6 0 (some w.2.1)).bind fun w5 =>
    some ((some w.2.1), w5)) else
  fL_grow_b20 b a1 x2 (0) w
def fL_grow2 (b : Nat)  (w : cW) : Option (Option Nat × cW) :=
  (gI w (some b) 6 1).bind fun x1 =>
  (cRcv w (some b) 6).bind fun b4 => cbd (fL_grow b4 (x1 + (1 : Int32)) w) fun r2 w3 =>
  some (r2, w3)
def fL_add_b11 (b : Nat)  (a1 : Option Nat) (a2 : Option Nat) (a3 : Int32) (c : Nat) (w : cW) : Option (Unit × cW) :=
  (stQ w a2 a3 a1).bind fun w1 =>
  (pI w1 (some b) 6 1 (a3 + (1 : Int32))).bind fun w2 =>
  if c < 2 then (
  some ((), w2)) else none
def fL_add (b : Nat) (a1 : Nat) (a2 : Nat) (a3 : Int32) (w : cW) : Option (Unit × cW) :=
  (aLen w (some a2)).bind fun x1 =>
  if a3 = x1 then (
    (cRcv w (some b) 6).bind fun b4 => cbd (fL_grow2 b4 w) fun r2 w3 =>
    fL_add_b11 b (some a1) r2 a3 (1) w3) else
  fL_add_b11 b (some a1) (some a2) a3 (0) w
def fL_add2 (b : Nat) (a1 : Nat) (w : cW) : Option (Int32 × cW) :=
  (gI w (some b) 6 2).bind fun x1 =>
  (pI w (some b) 6 2 (x1 + (1 : Int32))).bind fun w2 =>
  (gQ w2 (some b) 6 0).bind fun r3 =>
  (gI w2 (some b) 6 1).bind fun x4 =>
  r3.bind fun b5 =>
  (cRcv w2 (some b) 6).bind fun b8 => cbd (fL_add b8 a1 b5 x4 w2) fun u6 w7 =>
  some ((1 : Int32), w7)
def fL_clear_b27 (b : Nat)  (rec27 : (Option Nat) → Int32 → Int32 → cW → Option (Unit × cW)) (a1 : Option Nat) (a2 : Int32) (a3 : Int32) (w : cW) : Option (Unit × cW) :=
  if a2 ≤ a3 then (
    some ((), w)) else
  (stQ w a1 a3 none).bind fun w1 =>
  bnd (a3 + (1 : Int32)) fun x2 =>
  rec27 a1 a2 x2 w1
def fL_clear_l27 (b : Nat)  (n : Nat) : (Option Nat) → Int32 → Int32 → cW → Option (Unit × cW) := lp (fun _ _ _ _ => none) (fL_clear_b27 b ) n
def fL_clear (b : Nat)  (w : cW) : Option (Unit × cW) :=
  (gI w (some b) 6 2).bind fun x1 =>
  (pI w (some b) 6 2 (x1 + (1 : Int32))).bind fun w2 =>
  (gQ w2 (some b) 6 0).bind fun r3 =>
  (gI w2 (some b) 6 1).bind fun x4 =>
  (pI w2 (some b) 6 1 (0 : Int32)).bind fun w5 =>
  fL_clear_l27 b FU r3 x4 (0 : Int32) w5
set_option maxHeartbeats 4000000 in
set_option maxRecDepth 100000 in
theorem tC_init {C : xC} {G : cG} {w0 w' : cW} {r : Unit} {b : Nat} (hC : okC C prog_13_method_1_code 1 "java/util/AbstractCollection" lw_gd) (hE : xE C none mkV G w0 w' r) (hR : xR C = rmC_init) (hN : (xmeth C).name = "<init>")  (w : cW) (hf : fC_init b w = some (r, w')) : V C w 0 0 0 [(0, va_rf (some b))] [] := by
  unfold fC_init at hf
  refine v_aload_n (pc := 0) (i := 0) (r := (some b)) hC dC_init_0 rfl 0 rfl ?_
  refine v_objInit (pc := 1) (b := b) (rest := []) hC dC_init_1 q35 q22 q23 (by simp only [List.map_cons, List.map_nil, va_cat]; exact Nat.le_of_ble_eq_true rfl) (by rw [hR]; decide) ?_
  exact v_vret (pc := 4) hC hE dC_init_4 (by rw [hR]; decide) (by rw [hR]; decide) hf
theorem mC_init (l : Launch) (G : cG) (b : Nat)  (w : cW) (r : Unit) (w' : cW) (hf : fC_init b w = some (r, w')) : Met l yC_init (wsM yC_init prog_13_method_1_code 1 none) rmC_init (mP G w [va_rf (some b)]) (mQ mkV G w w' r) (rmC_init).cells (rmC_init).slots (Aw w) :=
  met_of (by decide +kernel) rfl (Nat.le_of_ble_eq_true rfl) (fun C hC hR _ _ hN hts hE => tC_init (okC.tbl hC) hE hR hN  w hf)
set_option maxHeartbeats 4000000 in
set_option maxRecDepth 100000 in
theorem tB_init {C : xC} {G : cG} {w0 w' : cW} {r : Unit} {b : Nat} (hC : okC C prog_14_method_1_code 1 "java/util/AbstractList" lw_gd) (hE : xE C none mkV G w0 w' r) (hR : xR C = rmB_init) (hN : (xmeth C).name = "<init>")  (w : cW) (hf : fB_init b w = some (r, w')) : V C w 0 0 0 [(0, va_rf (some b))] [] := by
  unfold fB_init at hf
  refine v_aload_n (pc := 0) (i := 0) (r := (some b)) hC dB_init_0 rfl 0 rfl ?_
  refine v_callI (pc := 1) (b := b) (As := []) (rest := []) (k' := 0) (n' := 0) hC dB_init_1 q32 q33 q2 q34 rfl ykC_init rfl (fun r9 w9 h9 => mC_init _ _ b _ r9 w9 h9) (by rw [hR]; decide) (by simp only [List.map_cons, List.map_nil, va_cat]; exact Nat.le_of_ble_eq_true rfl) (by decide) (by rw [hR]; decide) hf rfl (fun _ w2 hf => ?_)
  refine v_aload_n (pc := 4) (i := 0) (r := (some b)) hC dB_init_4 rfl 0 rfl ?_
  refine v_iconst (pc := 5) (v := (0 : Int32)) hC dB_init_5 (by decide) ?_
  refine v_putI (pc := 6) (r := (some b)) hC dB_init_6 inL rfl tyL tkL nmL 2 (by decide) q40 (Or.inl rfl) rfl (tkL 2 (by decide)) hf (fun w3 hf => ?_)
  exact v_vret (pc := 9) hC hE dB_init_9 (by rw [hR]; decide) (by rw [hR]; decide) hf
theorem mB_init (l : Launch) (G : cG) (b : Nat)  (w : cW) (r : Unit) (w' : cW) (hf : fB_init b w = some (r, w')) : Met l yB_init (wsM yB_init prog_14_method_1_code 1 none) rmB_init (mP G w [va_rf (some b)]) (mQ mkV G w w' r) (rmB_init).cells (rmB_init).slots (Aw w) :=
  met_of (by decide +kernel) rfl (Nat.le_of_ble_eq_true rfl) (fun C hC hR _ _ hN hts hE => tB_init (okC.tbl hC) hE hR hN  w hf)
set_option maxHeartbeats 4000000 in
set_option maxRecDepth 100000 in
theorem tL_init {C : xC} {G : cG} {w0 w' : cW} {r : Unit} {b : Nat} (hC : okC C prog_15_method_2_code 1 "java/util/ArrayList" lw_gd) (hE : xE C none mkV G w0 w' r) (hR : xR C = rmL_init) (hN : (xmeth C).name = "<init>")  (w : cW) (hf : fL_init b w = some (r, w')) : V C w 0 0 0 [(0, va_rf (some b))] [] := by
  unfold fL_init at hf
  refine v_aload_n (pc := 0) (i := 0) (r := (some b)) hC dL_init_0 rfl 0 rfl ?_
  refine v_callI (pc := 1) (b := b) (As := []) (rest := []) (k' := 0) (n' := 0) hC dL_init_1 q29 q30 q3 q31 rfl ykB_init rfl (fun r9 w9 h9 => mB_init _ _ b _ r9 w9 h9) (by rw [hR]; decide) (by simp only [List.map_cons, List.map_nil, va_cat]; exact Nat.le_of_ble_eq_true rfl) (by decide) (by rw [hR]; decide) hf rfl (fun _ w2 hf => ?_)
  refine v_aload_n (pc := 4) (i := 0) (r := (some b)) hC dL_init_4 rfl 0 rfl ?_
  refine v_gets (pc := 5) hC dL_init_5 q36 ?_
  refine v_putQ (pc := 8) (r := (some b)) hC dL_init_8 inL rfl tyL tkL nmL 0 (by decide) q38 (Or.inl rfl) rfl (tkL 0 (by decide)) (Or.inr ⟨_, rfl⟩) hf (fun w3 hf => ?_)
  exact v_vret (pc := 11) hC hE dL_init_11 (by rw [hR]; decide) (by rw [hR]; decide) hf
theorem mL_init (l : Launch) (G : cG) (b : Nat)  (w : cW) (r : Unit) (w' : cW) (hf : fL_init b w = some (r, w')) : Met l yL_init (wsM yL_init prog_15_method_2_code 1 none) rmL_init (mP G w [va_rf (some b)]) (mQ mkV G w w' r) (rmL_init).cells (rmL_init).slots (Aw w) :=
  met_of (by decide +kernel) rfl (Nat.le_of_ble_eq_true rfl) (fun C hC hR _ _ hN hts hE => tL_init (okC.tbl hC) hE hR hN  w hf)
set_option maxHeartbeats 4000000 in
set_option maxRecDepth 100000 in
theorem tL_size {C : xC} {G : cG} {w0 w' : cW} {r : Int32} {b : Nat} (hC : okC C prog_15_method_8_code 1 "java/util/ArrayList" lw_gd) (hE : xE C (some .int) mkI G w0 w' r) (hR : xR C = rmL_size)  (w : cW) (hf : fL_size b w = some (r, w')) : V C w 0 0 0 [(0, va_rf (some b))] [] := by
  unfold fL_size at hf
  refine v_aload_n (pc := 0) (i := 0) (r := (some b)) hC dL_size_0 rfl 0 rfl ?_
  refine v_getI (pc := 1) (r := (some b)) hC dL_size_1 inL rfl 1 (by decide) q39 (Or.inl rfl) hf (fun x1 hf => ?_)
  exact v_iret (pc := 4) hC hE dL_size_4 (by rw [hR]; decide) (by rw [hR]; decide) hf
theorem mL_size (l : Launch) (G : cG) (b : Nat)  (w : cW) (r : Int32) (w' : cW) (hf : fL_size b w = some (r, w')) : Met l yL_size (wsM yL_size prog_15_method_8_code 1 (some .int)) rmL_size (mP G w [va_rf (some b)]) (mQ mkI G w w' r) (rmL_size).cells (rmL_size).slots (Aw w) :=
  met_of (by decide +kernel) rfl (Nat.le_of_ble_eq_true rfl) (fun C hC hR _ _ _ hts hE => tL_size (okC.tbl hC) hE hR  w hf)
set_option maxHeartbeats 4000000 in
set_option maxRecDepth 100000 in
theorem tP_checkIndex {C : xC} {G : cG} {w0 w' : cW} {r : Int32}  (hC : okC C prog_23_method_11_code 3 "jdk/internal/util/Preconditions" lw_gd) (hE : xE C (some .int) mkI G w0 w' r) (hR : xR C = rmP_checkIndex) (a0 : Int32) (a1 : Int32) (w : cW) (hf : fP_checkIndex a0 a1 w = some (r, w')) : V C w 0 0 0 [(0, .int a0), (1, .int a1), (2, va_rf none)] [] := by
  unfold fP_checkIndex at hf
  refine v_iload_n (pc := 0) (i := 0) (x := a0) hC dP_checkIndex_0 rfl 0 rfl ?_
  refine v_if_lt (pc := 1) (tgt := 9) hC dP_checkIndex_1 (by decide) hf (fun hf => ?_) (fun hf => ?_)
  · cases hf
  · refine v_iload_n (pc := 4) (i := 0) (x := a0) hC dP_checkIndex_4 rfl 0 rfl ?_
    refine v_iload_n (pc := 5) (i := 1) (x := a1) hC dP_checkIndex_5 rfl 1 rfl ?_
    refine v_icmp_lt (pc := 6) (tgt := 16) hC dP_checkIndex_6 (by decide) hf (fun hf => ?_) (fun hf => ?_)
    · refine v_iload_n (pc := 16) (i := 0) (x := a0) hC dP_checkIndex_16 rfl 0 rfl ?_
      exact v_iret (pc := 17) hC hE dP_checkIndex_17 (by rw [hR]; decide) (by rw [hR]; decide) hf
    · cases hf
theorem mP_checkIndex (l : Launch) (G : cG)  (a0 : Int32) (a1 : Int32) (w : cW) (r : Int32) (w' : cW) (hf : fP_checkIndex a0 a1 w = some (r, w')) : Met l yP_checkIndex (wsM yP_checkIndex prog_23_method_11_code 3 (some .int)) rmP_checkIndex (mP G w [.int a0, .int a1, va_rf none]) (mQ mkI G w w' r) (rmP_checkIndex).cells (rmP_checkIndex).slots (Aw w) :=
  met_of (by decide +kernel) rfl (Nat.le_of_ble_eq_true rfl) (fun C hC hR _ _ _ hts hE => tP_checkIndex (okC.tbl hC) hE hR a0 a1 w hf)
set_option maxHeartbeats 4000000 in
set_option maxRecDepth 100000 in
theorem tJ_checkIndex {C : xC} {G : cG} {w0 w' : cW} {r : Int32}  (hC : okC C prog_19_method_17_code 2 "java/util/Objects" lw_gd) (hE : xE C (some .int) mkI G w0 w' r) (hR : xR C = rmJ_checkIndex) (a0 : Int32) (a1 : Int32) (w : cW) (hf : fJ_checkIndex a0 a1 w = some (r, w')) : V C w 0 0 0 [(0, .int a0), (1, .int a1)] [] := by
  unfold fJ_checkIndex at hf
  refine v_iload_n (pc := 0) (i := 0) (x := a0) hC dJ_checkIndex_0 rfl 0 rfl ?_
  refine v_iload_n (pc := 1) (i := 1) (x := a1) hC dJ_checkIndex_1 rfl 1 rfl ?_
  refine v_null (pc := 2) hC dJ_checkIndex_2 ?_
  refine v_callS (pc := 3) (As := [.int a0, .int a1, va_rf none]) (rest := []) (k' := 0) (n' := 0) (st1 := (fun y9 => [.int y9])) hC dJ_checkIndex_3 q246 q247 q14 q248 ykP_checkIndex rfl (fun r9 w9 h9 => mP_checkIndex _ _ a0 a1 _ r9 w9 h9) (by rw [hR]; decide) (by simp only [List.map_cons, List.map_nil, va_cat]; exact Nat.le_of_ble_eq_true rfl) (by decide) (by rw [hR]; decide) hf rfl (fun _ => rfl) (fun x1 w2 hf => ?_)
  exact v_iret (pc := 6) hC hE dJ_checkIndex_6 (by rw [hR]; decide) (by rw [hR]; decide) hf
theorem mJ_checkIndex (l : Launch) (G : cG)  (a0 : Int32) (a1 : Int32) (w : cW) (r : Int32) (w' : cW) (hf : fJ_checkIndex a0 a1 w = some (r, w')) : Met l yJ_checkIndex (wsM yJ_checkIndex prog_19_method_17_code 2 (some .int)) rmJ_checkIndex (mP G w [.int a0, .int a1]) (mQ mkI G w w' r) (rmJ_checkIndex).cells (rmJ_checkIndex).slots (Aw w) :=
  met_of (by decide +kernel) rfl (Nat.le_of_ble_eq_true rfl) (fun C hC hR _ _ _ hts hE => tJ_checkIndex (okC.tbl hC) hE hR a0 a1 w hf)
set_option maxHeartbeats 4000000 in
set_option maxRecDepth 100000 in
theorem tL_elementData {C : xC} {G : cG} {w0 w' : cW} {r : Option Nat} {b : Nat} (hC : okC C prog_15_method_18_code 2 "java/util/ArrayList" lw_gd) (hE : xE C (some (.object "java/lang/Object")) mkR G w0 w' r) (hR : xR C = rmL_elementData) (a1 : Int32) (w : cW) (hf : fL_elementData b a1 w = some (r, w')) : V C w 0 0 0 [(0, va_rf (some b)), (1, .int a1)] [] := by
  unfold fL_elementData at hf
  refine v_aload_n (pc := 0) (i := 0) (r := (some b)) hC dL_elementData_0 rfl 0 rfl ?_
  refine v_getQ (pc := 1) (r := (some b)) hC dL_elementData_1 inL rfl 0 (by decide) q38 (Or.inl rfl) hf (fun r1 hf => ?_)
  refine v_iload_n (pc := 4) (i := 1) (x := a1) hC dL_elementData_4 rfl 1 rfl ?_
  refine v_aald (pc := 5) hC dL_elementData_5 hf (fun r2 hf => ?_)
  exact v_aret (pc := 6) hC hE (Or.inl ⟨_, rfl⟩) dL_elementData_6 (by rw [hR]; decide) (by rw [hR]; decide) hf
theorem mL_elementData (l : Launch) (G : cG) (b : Nat) (a1 : Int32) (w : cW) (r : Option Nat) (w' : cW) (hf : fL_elementData b a1 w = some (r, w')) : Met l yL_elementData (wsM yL_elementData prog_15_method_18_code 2 (some (.object "java/lang/Object"))) rmL_elementData (mP G w [va_rf (some b), .int a1]) (mQ mkR G w w' r) (rmL_elementData).cells (rmL_elementData).slots (Aw w) :=
  met_of (by decide +kernel) rfl (Nat.le_of_ble_eq_true rfl) (fun C hC hR _ _ _ hts hE => tL_elementData (okC.tbl hC) hE hR a1 w hf)
set_option maxHeartbeats 4000000 in
set_option maxRecDepth 100000 in
theorem tL_get {C : xC} {G : cG} {w0 w' : cW} {r : Option Nat} {b : Nat} (hC : okC C prog_15_method_20_code 2 "java/util/ArrayList" lw_gd) (hE : xE C (some (.object "java/lang/Object")) mkR G w0 w' r) (hR : xR C = rmL_get) (a1 : Int32) (w : cW) (hf : fL_get b a1 w = some (r, w')) : V C w 0 0 0 [(0, va_rf (some b)), (1, .int a1)] [] := by
  unfold fL_get at hf
  refine v_iload_n (pc := 0) (i := 1) (x := a1) hC dL_get_0 rfl 1 rfl ?_
  refine v_aload_n (pc := 1) (i := 0) (r := (some b)) hC dL_get_1 rfl 0 rfl ?_
  refine v_getI (pc := 2) (r := (some b)) hC dL_get_2 inL rfl 1 (by decide) q39 (Or.inl rfl) hf (fun x1 hf => ?_)
  refine v_callS (pc := 5) (As := [.int a1, .int x1]) (rest := []) (k' := 0) (n' := 0) (st1 := (fun y9 => [.int y9])) hC dL_get_5 q243 q244 q13 q245 ykJ_checkIndex rfl (fun r9 w9 h9 => mJ_checkIndex _ _ a1 x1 _ r9 w9 h9) (by rw [hR]; decide) (by simp only [List.map_cons, List.map_nil, va_cat]; exact Nat.le_of_ble_eq_true rfl) (by decide) (by rw [hR]; decide) hf rfl (fun _ => rfl) (fun x2 w3 hf => ?_)
  refine v_pop (pc := 8) hC dL_get_8 rfl ?_
  refine v_aload_n (pc := 9) (i := 0) (r := (some b)) hC dL_get_9 rfl 0 rfl ?_
  refine v_iload_n (pc := 10) (i := 1) (x := a1) hC dL_get_10 rfl 1 rfl ?_
  refine v_callV (pc := 11) (r := (some b)) (As := [.int a1]) (rest := []) (k' := 0) (n' := 0) (st1 := (fun y9 => [va_rf y9])) hC dL_get_11 q249 q250 q251 q4 q252 ykL_elementData rfl rfl (fun b9 r9 w9 h9 => mL_elementData _ _ b9 a1 _ r9 w9 h9) (by rw [hR]; decide) (by simp only [List.map_cons, List.map_nil, va_cat]; exact Nat.le_of_ble_eq_true rfl) (by decide) (by rw [hR]; decide) hf rfl (fun _ => rfl) (fun r4 w5 hf => ?_)
  exact v_aret (pc := 14) hC hE (Or.inl ⟨_, rfl⟩) dL_get_14 (by rw [hR]; decide) (by rw [hR]; decide) hf
theorem mL_get (l : Launch) (G : cG) (b : Nat) (a1 : Int32) (w : cW) (r : Option Nat) (w' : cW) (hf : fL_get b a1 w = some (r, w')) : Met l yL_get (wsM yL_get prog_15_method_20_code 2 (some (.object "java/lang/Object"))) rmL_get (mP G w [va_rf (some b), .int a1]) (mQ mkR G w w' r) (rmL_get).cells (rmL_get).slots (Aw w) :=
  met_of (by decide +kernel) rfl (Nat.le_of_ble_eq_true rfl) (fun C hC hR _ _ _ hts hE => tL_get (okC.tbl hC) hE hR a1 w hf)
set_option maxHeartbeats 4000000 in
set_option maxRecDepth 100000 in
theorem tU_newLength {C : xC} {G : cG} {w0 w' : cW} {r : Int32}  (hC : okC C prog_22_method_27_code 4 "jdk/internal/util/ArraysSupport" lw_gd) (hE : xE C (some .int) mkI G w0 w' r) (hR : xR C = rmU_newLength) (a0 : Int32) (a1 : Int32) (a2 : Int32) (w : cW) (hf : fU_newLength a0 a1 a2 w = some (r, w')) : V C w 0 0 0 [(0, .int a0), (1, .int a1), (2, .int a2)] [] := by
  unfold fU_newLength at hf
  refine v_iload_n (pc := 0) (i := 0) (x := a0) hC dU_newLength_0 rfl 0 rfl ?_
  refine v_iload_n (pc := 1) (i := 1) (x := a1) hC dU_newLength_1 rfl 1 rfl ?_
  refine v_iload_n (pc := 2) (i := 2) (x := a2) hC dU_newLength_2 rfl 2 rfl ?_
  refine v_mmax (pc := 3) (x := a1) (y := a2) (st := [.int a0]) hC dU_newLength_3 q196 q197 q10 q198 (by rw [hR]; decide) (by simp only [List.map_cons, List.map_nil, va_cat]; exact Nat.le_of_ble_eq_true rfl) (by rw [hR]; decide) ?_
  refine v_iadd (pc := 6) hC dU_newLength_6 ?_
  refine v_bndi hf (fun x1 hf => ?_)
  refine v_istore_n (pc := 7) (i := 3) (x := x1) hC dU_newLength_7 rfl (by decide) [(3, .int x1), (0, .int a0), (1, .int a1), (2, .int a2)] rfl ?_
  refine v_iconst (pc := 8) (v := (0 : Int32)) hC dU_newLength_8 (by decide) ?_
  refine v_iload_n (pc := 9) (i := 3) (x := x1) hC dU_newLength_9 rfl 0 rfl ?_
  refine v_icmp_ge (pc := 10) (tgt := 21) hC dU_newLength_10 (by decide) hf (fun hf => ?_) (fun hf => ?_)
  · refine v_iload_n (pc := 21) (i := 0) (x := a0) hC dU_newLength_21 rfl 1 rfl ?_
    refine v_iload_n (pc := 22) (i := 1) (x := a1) hC dU_newLength_22 rfl 2 rfl ?_
    cases hf
  · refine v_iload_n (pc := 13) (i := 3) (x := x1) hC dU_newLength_13 rfl 0 rfl ?_
    refine v_ldc (pc := 14) (v := (2147483639 : Int32)) hC dU_newLength_14 q199 ?_
    refine v_icmp_gt (pc := 16) (tgt := 21) hC dU_newLength_16 (by decide) hf (fun hf => ?_) (fun hf => ?_)
    · refine v_iload_n (pc := 21) (i := 0) (x := a0) hC dU_newLength_21 rfl 1 rfl ?_
      refine v_iload_n (pc := 22) (i := 1) (x := a1) hC dU_newLength_22 rfl 2 rfl ?_
      cases hf
    · refine v_iload_n (pc := 19) (i := 3) (x := x1) hC dU_newLength_19 rfl 0 rfl ?_
      exact v_iret (pc := 20) hC hE dU_newLength_20 (by rw [hR]; decide) (by rw [hR]; decide) hf
theorem mU_newLength (l : Launch) (G : cG)  (a0 : Int32) (a1 : Int32) (a2 : Int32) (w : cW) (r : Int32) (w' : cW) (hf : fU_newLength a0 a1 a2 w = some (r, w')) : Met l yU_newLength (wsM yU_newLength prog_22_method_27_code 4 (some .int)) rmU_newLength (mP G w [.int a0, .int a1, .int a2]) (mQ mkI G w w' r) (rmU_newLength).cells (rmU_newLength).slots (Aw w) :=
  met_of (by decide +kernel) rfl (Nat.le_of_ble_eq_true rfl) (fun C hC hR _ _ _ hts hE => tU_newLength (okC.tbl hC) hE hR a0 a1 a2 w hf)
set_option maxHeartbeats 4000000 in
set_option maxRecDepth 100000 in
theorem tY_copyOf {C : xC} {G : cG} {w0 w' : cW} {r : Option Nat}  (hC : okC C prog_16_method_120_code 4 "java/util/Arrays" lw_gd) (hE : xE C (some (.array (.object "java/lang/Object"))) mkR G w0 w' r) (hR : xR C = rmY_copyOf) (a0 : Nat) (a1 : Int32) (a2 : Nat) (w : cW) (hf : fY_copyOf a0 a1 a2 w = some (r, w')) : V C w 0 0 0 [(0, va_rf (some a0)), (1, .int a1), (2, va_rf (some a2))] [] := by
  unfold fY_copyOf at hf
  refine v_aload_n (pc := 0) (i := 2) (r := (some a2)) hC dY_copyOf_0 rfl 2 rfl ?_
  refine v_ldcM (pc := 1) hC dY_copyOf_1 q220 ?_
  refine v_acmp_ne (pc := 3) (tgt := 13) hC dY_copyOf_3 (by decide) hf (fun hf => ?_) (fun hf => ?_)
  · refine v_aload_n (pc := 13) (i := 2) (r := (some a2)) hC dY_copyOf_13 rfl 2 rfl ?_
    cases hf
  · refine v_iload_n (pc := 6) (i := 1) (x := a1) hC dY_copyOf_6 rfl 1 rfl ?_
    refine v_newq (pc := 7) (t := 2) (b := 33) hC dY_copyOf_7 q222 x221 rfl (by decide) (by decide) (by rw [hR]; decide) (by rw [hR]; decide) hf (fun w1 hf => ?_)
    refine V.widen (k' := 1) (n' := 33) (by omega) (by omega) ?_
    refine v_goto (pc := 10) (tgt := 24) hC dY_copyOf_10 (by decide) ?_
    refine v_astore_n (pc := 24) (i := 3) (r := (some w.2.1)) hC dY_copyOf_24 rfl (by decide) [(3, va_rf (some w.2.1)), (0, va_rf (some a0)), (1, .int a1), (2, va_rf (some a2))] rfl ?_
    refine v_aload_n (pc := 25) (i := 0) (r := (some a0)) hC dY_copyOf_25 rfl 1 rfl ?_
    refine v_iconst (pc := 26) (v := (0 : Int32)) hC dY_copyOf_26 (by decide) ?_
    refine v_aload_n (pc := 27) (i := 3) (r := (some w.2.1)) hC dY_copyOf_27 rfl 0 rfl ?_
    refine v_iconst (pc := 28) (v := (0 : Int32)) hC dY_copyOf_28 (by decide) ?_
    refine v_aload_n (pc := 29) (i := 0) (r := (some a0)) hC dY_copyOf_29 rfl 1 rfl ?_
    refine v_alen (pc := 30) hC dY_copyOf_30 hf (fun x2 hf => ?_)
    refine v_iload_n (pc := 31) (i := 1) (x := a1) hC dY_copyOf_31 rfl 2 rfl ?_
    refine v_mmin (pc := 32) (x := x2) (y := a1) (st := [.int (0 : Int32), va_rf (some w.2.1), .int (0 : Int32), va_rf (some a0)]) hC dY_copyOf_32 q223 q224 q10 q225 (by rw [hR]; decide) (by simp only [List.map_cons, List.map_nil, va_cat]; exact Nat.le_of_ble_eq_true rfl) (by rw [hR]; decide) ?_
    refine v_copyQ (pc := 35) (st := []) hC (cAs_of hC) dY_copyOf_35 q226 q228 q227 q12 (by rw [hR]; decide) (by simp only [List.map_cons, List.map_nil, va_cat]; exact Nat.le_of_ble_eq_true rfl) hf (fun w3 hf => ?_)
    refine v_aload_n (pc := 38) (i := 3) (r := (some w.2.1)) hC dY_copyOf_38 rfl 0 rfl ?_
    exact v_aret (pc := 39) hC hE (Or.inr ⟨_, rfl⟩) dY_copyOf_39 (by rw [hR]; decide) (by rw [hR]; decide) hf
theorem mY_copyOf (l : Launch) (G : cG)  (a0 : Nat) (a1 : Int32) (a2 : Nat) (w : cW) (r : Option Nat) (w' : cW) (hf : fY_copyOf a0 a1 a2 w = some (r, w')) : Met l yY_copyOf (wsM yY_copyOf prog_16_method_120_code 4 (some (.array (.object "java/lang/Object")))) rmY_copyOf (mP G w [va_rf (some a0), .int a1, va_rf (some a2)]) (mQ mkR G w w' r) (rmY_copyOf).cells (rmY_copyOf).slots (Aw w) :=
  met_of (by decide +kernel) rfl (Nat.le_of_ble_eq_true rfl) (fun C hC hR _ _ _ hts hE => tY_copyOf (okC.tbl hC) hE hR a0 a1 a2 w hf)
set_option maxHeartbeats 4000000 in
set_option maxRecDepth 100000 in
theorem tY_copyOf2 {C : xC} {G : cG} {w0 w' : cW} {r : Option Nat}  (hC : okC C prog_16_method_119_code 2 "java/util/Arrays" lw_gd) (hE : xE C (some (.array (.object "java/lang/Object"))) mkR G w0 w' r) (hR : xR C = rmY_copyOf2) (a0 : Nat) (a1 : Int32) (w : cW) (hf : fY_copyOf2 a0 a1 w = some (r, w')) : V C w 0 0 0 [(0, va_rf (some a0)), (1, .int a1)] [] := by
  unfold fY_copyOf2 at hf
  refine v_aload_n (pc := 0) (i := 0) (r := (some a0)) hC dY_copyOf2_0 rfl 0 rfl ?_
  refine v_iload_n (pc := 1) (i := 1) (x := a1) hC dY_copyOf2_1 rfl 1 rfl ?_
  refine v_aload_n (pc := 2) (i := 0) (r := (some a0)) hC dY_copyOf2_2 rfl 0 rfl ?_
  refine v_getC (pc := 3) (r := (some a0)) (st := [.int a1, va_rf (some a0)]) hC dY_copyOf2_3 q206 q216 q207 (Or.inr q675) (Or.inl x676) (by rw [hR]; decide) (by simp only [List.map_cons, List.map_nil, va_cat]; exact Nat.le_of_ble_eq_true rfl) hf (fun hf => ?_)
  refine v_callS (pc := 6) (As := [va_rf (some a0), .int a1, va_rf (some w.2.2.2)]) (rest := []) (k' := 1) (n' := 33) (st1 := (fun y9 => [va_rf y9])) hC dY_copyOf2_6 q217 q218 q11 q219 ykY_copyOf rfl (fun r9 w9 h9 => mY_copyOf _ _ a0 a1 w.2.2.2 _ r9 w9 h9) (by rw [hR]; decide) (by simp only [List.map_cons, List.map_nil, va_cat]; exact Nat.le_of_ble_eq_true rfl) (by decide) (by rw [hR]; decide) hf rfl (fun _ => rfl) (fun r1 w2 hf => ?_)
  exact v_aret (pc := 9) hC hE (Or.inr ⟨_, rfl⟩) dY_copyOf2_9 (by rw [hR]; decide) (by rw [hR]; decide) hf
theorem mY_copyOf2 (l : Launch) (G : cG)  (a0 : Nat) (a1 : Int32) (w : cW) (r : Option Nat) (w' : cW) (hf : fY_copyOf2 a0 a1 w = some (r, w')) : Met l yY_copyOf2 (wsM yY_copyOf2 prog_16_method_119_code 2 (some (.array (.object "java/lang/Object")))) rmY_copyOf2 (mP G w [va_rf (some a0), .int a1]) (mQ mkR G w w' r) (rmY_copyOf2).cells (rmY_copyOf2).slots (Aw w) :=
  met_of (by decide +kernel) rfl (Nat.le_of_ble_eq_true rfl) (fun C hC hR _ _ _ hts hE => tY_copyOf2 (okC.tbl hC) hE hR a0 a1 w hf)
set_option maxHeartbeats 4000000 in
set_option maxRecDepth 100000 in
theorem tL_grow_b20 {C : xC} {G : cG} {w0 w' : cW} {r : Option Nat} {b : Nat} (hC : okC C prog_15_method_6_code 4 "java/util/ArrayList" lw_gd) (hE : xE C (some (.array (.object "java/lang/Object"))) mkR G w0 w' r) (hR : xR C = rmL_grow)  (a1 : Int32) (a2 : Int32) (c : Nat) (w : cW) (hf : fL_grow_b20 b a1 a2 c w = some (r, w')) : V C w (1 * c) (33 * c) 20 [(0, va_rf (some b)), (1, .int a1), (2, .int a2)] [] := by
  unfold fL_grow_b20 at hf
  refine v_iload_n (pc := 20) (i := 2) (x := a2) hC dL_grow_20 rfl 2 rfl ?_
  refine v_iload_n (pc := 21) (i := 1) (x := a1) hC dL_grow_21 rfl 1 rfl ?_
  refine v_iload_n (pc := 22) (i := 2) (x := a2) hC dL_grow_22 rfl 2 rfl ?_
  refine v_isub (pc := 23) hC dL_grow_23 ?_
  refine v_iload_n (pc := 24) (i := 2) (x := a2) hC dL_grow_24 rfl 2 rfl ?_
  refine v_iconst (pc := 25) (v := (1 : Int32)) hC dL_grow_25 (by decide) ?_
  refine v_ishr (pc := 26) hC dL_grow_26 ?_
  by_cases ec3 : c < 2
  rotate_left
  · rw [if_neg ec3] at hf; cases hf
  rw [if_pos ec3] at hf
  refine v_callS (pc := 27) (As := [.int a2, .int (a1 - a2), .int (a2 >>> ((1 : Int32) &&& 31))]) (rest := []) (k' := 1 * c) (n' := 33 * c) (st1 := (fun y9 => [.int y9])) hC dL_grow_27 q193 q194 q9 q195 ykU_newLength rfl (fun r9 w9 h9 => mU_newLength _ _ a2 (a1 - a2) (a2 >>> ((1 : Int32) &&& 31)) _ r9 w9 h9) (by rw [hR]; decide) (by simp only [List.map_cons, List.map_nil, va_cat]; exact Nat.le_of_ble_eq_true rfl) (by simp only [rmU_newLength]; omega) (by rw [hR]; simp only [rmL_grow]; omega) hf rfl (fun _ => rfl) (fun x1 w2 hf => ?_)
  refine v_istore_n (pc := 30) (i := 3) (x := x1) hC dL_grow_30 rfl (by decide) [(3, .int x1), (0, va_rf (some b)), (1, .int a1), (2, .int a2)] rfl ?_
  refine v_aload_n (pc := 31) (i := 0) (r := (some b)) hC dL_grow_31 rfl 1 rfl ?_
  refine v_aload_n (pc := 32) (i := 0) (r := (some b)) hC dL_grow_32 rfl 1 rfl ?_
  refine v_getQ (pc := 33) (r := (some b)) hC dL_grow_33 inL rfl 0 (by decide) q38 (Or.inl rfl) hf (fun r4 hf => ?_)
  refine v_iload_n (pc := 36) (i := 3) (x := x1) hC dL_grow_36 rfl 0 rfl ?_
  obtain ⟨b5, eb5, hf1⟩ := ob hf
  clear hf
  cases eb5
  have hf := hf1
  clear hf1
  by_cases ec8 : c < 1
  rotate_left
  · rw [if_neg ec8] at hf; cases hf
  rw [if_pos ec8] at hf
  refine v_callS (pc := 37) (As := [va_rf (some b5), .int x1]) (rest := [va_rf (some b)]) (k' := 1 * (c + 1)) (n' := 33 * (c + 1)) (st1 := (fun y9 => [va_rf y9, va_rf (some b)])) hC dL_grow_37 q203 q204 q11 q205 ykY_copyOf2 rfl (fun r9 w9 h9 => mY_copyOf2 _ _ b5 x1 _ r9 w9 h9) (by rw [hR]; decide) (by simp only [List.map_cons, List.map_nil, va_cat]; exact Nat.le_of_ble_eq_true rfl) (by simp only [rmY_copyOf2]; omega) (by rw [hR]; simp only [rmL_grow]; omega) hf rfl (fun _ => rfl) (fun r6 w7 hf => ?_)
  refine v_dup_x1RR (pc := 40) hC dL_grow_40 ?_
  refine v_putQ (pc := 41) (r := (some b)) hC dL_grow_41 inL rfl tyL tkL nmL 0 (by decide) q38 (Or.inl rfl) rfl (tkL 0 (by decide)) (Or.inr ⟨_, rfl⟩) hf (fun w9 hf => ?_)
  by_cases ec10 : (c + 1) < 2
  rotate_left
  · rw [if_neg ec10] at hf; cases hf
  rw [if_pos ec10] at hf
  exact v_aret (pc := 44) hC hE (Or.inr ⟨_, rfl⟩) dL_grow_44 (by rw [hR]; simp only [rmL_grow]; omega) (by rw [hR]; simp only [rmL_grow]; omega) hf
set_option maxHeartbeats 4000000 in
set_option maxRecDepth 100000 in
theorem tL_grow {C : xC} {G : cG} {w0 w' : cW} {r : Option Nat} {b : Nat} (hC : okC C prog_15_method_6_code 4 "java/util/ArrayList" lw_gd) (hE : xE C (some (.array (.object "java/lang/Object"))) mkR G w0 w' r) (hR : xR C = rmL_grow) (a1 : Int32) (w : cW) (hf : fL_grow b a1 w = some (r, w')) : V C w 0 0 0 [(0, va_rf (some b)), (1, .int a1)] [] := by
  unfold fL_grow at hf
  refine v_aload_n (pc := 0) (i := 0) (r := (some b)) hC dL_grow_0 rfl 0 rfl ?_
  refine v_getQ (pc := 1) (r := (some b)) hC dL_grow_1 inL rfl 0 (by decide) q38 (Or.inl rfl) hf (fun r1 hf => ?_)
  refine v_alen (pc := 4) hC dL_grow_4 hf (fun x2 hf => ?_)
  refine v_istore_n (pc := 5) (i := 2) (x := x2) hC dL_grow_5 rfl (by decide) [(2, .int x2), (0, va_rf (some b)), (1, .int a1)] rfl ?_
  refine v_iload_n (pc := 6) (i := 2) (x := x2) hC dL_grow_6 rfl 0 rfl ?_
  refine v_if_gt (pc := 7) (tgt := 20) hC dL_grow_7 (by decide) hf (fun hf => ?_) (fun hf => ?_)
  · exact V.sub [1, 2, 0] rfl (tL_grow_b20 hC hE hR  _ _ _ _ hf)
  · refine v_aload_n (pc := 10) (i := 0) (r := (some b)) hC dL_grow_10 rfl 1 rfl ?_
    refine v_getQ (pc := 11) (r := (some b)) hC dL_grow_11 inL rfl 0 (by decide) q38 (Or.inl rfl) hf (fun r3 hf => ?_)
    refine v_gets (pc := 14) hC dL_grow_14 q36 ?_
    refine v_acmp_eq (pc := 17) (tgt := 45) hC dL_grow_17 (by decide) hf (fun hf => ?_) (fun hf => ?_)
    · refine v_aload_n (pc := 45) (i := 0) (r := (some b)) hC dL_grow_45 rfl 1 rfl ?_
      refine v_bipush (pc := 46) (v := (10 : Int32)) hC dL_grow_46 (by decide) ?_
      refine v_iload_n (pc := 48) (i := 1) (x := a1) hC dL_grow_48 rfl 2 rfl ?_
      refine v_mmax (pc := 49) (x := (10 : Int32)) (y := a1) (st := [va_rf (some b)]) hC dL_grow_49 q229 q197 q10 q198 (by rw [hR]; decide) (by simp only [List.map_cons, List.map_nil, va_cat]; exact Nat.le_of_ble_eq_true rfl) (by rw [hR]; decide) ?_
      refine v_newq (pc := 52) (t := 2) (b := 33) hC dL_grow_52 q230 x221 rfl (by decide) (by decide) (by rw [hR]; decide) (by rw [hR]; decide) hf (fun w4 hf => ?_)
      refine V.widen (k' := 1) (n' := 33) (by omega) (by omega) ?_
      refine v_dup_x1RR (pc := 55) hC dL_grow_55 ?_
      refine v_putQ (pc := 56) (r := (some b)) hC dL_grow_56 inL rfl tyL tkL nmL 0 (by decide) q38 (Or.inl rfl) rfl (tkL 0 (by decide)) (Or.inr ⟨_, rfl⟩) hf (fun w5 hf => ?_)
      exact v_aret (pc := 59) hC hE (Or.inr ⟨_, rfl⟩) dL_grow_59 (by rw [hR]; decide) (by rw [hR]; decide) hf
    · exact V.sub [1, 2, 0] rfl (tL_grow_b20 hC hE hR  _ _ _ _ hf)
theorem mL_grow (l : Launch) (G : cG) (b : Nat) (a1 : Int32) (w : cW) (r : Option Nat) (w' : cW) (hf : fL_grow b a1 w = some (r, w')) : Met l yL_grow (wsM yL_grow prog_15_method_6_code 4 (some (.array (.object "java/lang/Object")))) rmL_grow (mP G w [va_rf (some b), .int a1]) (mQ mkR G w w' r) (rmL_grow).cells (rmL_grow).slots (Aw w) :=
  met_of (by decide +kernel) rfl (Nat.le_of_ble_eq_true rfl) (fun C hC hR _ _ _ hts hE => tL_grow (okC.tbl hC) hE hR a1 w hf)
set_option maxHeartbeats 4000000 in
set_option maxRecDepth 100000 in
theorem tL_grow2 {C : xC} {G : cG} {w0 w' : cW} {r : Option Nat} {b : Nat} (hC : okC C prog_15_method_7_code 1 "java/util/ArrayList" lw_gd) (hE : xE C (some (.array (.object "java/lang/Object"))) mkR G w0 w' r) (hR : xR C = rmL_grow2)  (w : cW) (hf : fL_grow2 b w = some (r, w')) : V C w 0 0 0 [(0, va_rf (some b))] [] := by
  unfold fL_grow2 at hf
  refine v_aload_n (pc := 0) (i := 0) (r := (some b)) hC dL_grow2_0 rfl 0 rfl ?_
  refine v_aload_n (pc := 1) (i := 0) (r := (some b)) hC dL_grow2_1 rfl 0 rfl ?_
  refine v_getI (pc := 2) (r := (some b)) hC dL_grow2_2 inL rfl 1 (by decide) q39 (Or.inl rfl) hf (fun x1 hf => ?_)
  refine v_iconst (pc := 5) (v := (1 : Int32)) hC dL_grow2_5 (by decide) ?_
  refine v_iadd (pc := 6) hC dL_grow2_6 ?_
  refine v_callV (pc := 7) (r := (some b)) (As := [.int (x1 + (1 : Int32))]) (rest := []) (k' := 1) (n' := 33) (st1 := (fun y9 => [va_rf y9])) hC dL_grow2_7 q189 q191 p2 q4 q192 ykL_grow rfl rfl (fun b9 r9 w9 h9 => mL_grow _ _ b9 (x1 + (1 : Int32)) _ r9 w9 h9) (by rw [hR]; decide) (by simp only [List.map_cons, List.map_nil, va_cat]; exact Nat.le_of_ble_eq_true rfl) (by decide) (by rw [hR]; decide) hf rfl (fun _ => rfl) (fun r2 w3 hf => ?_)
  exact v_aret (pc := 10) hC hE (Or.inr ⟨_, rfl⟩) dL_grow2_10 (by rw [hR]; decide) (by rw [hR]; decide) hf
theorem mL_grow2 (l : Launch) (G : cG) (b : Nat)  (w : cW) (r : Option Nat) (w' : cW) (hf : fL_grow2 b w = some (r, w')) : Met l yL_grow2 (wsM yL_grow2 prog_15_method_7_code 1 (some (.array (.object "java/lang/Object")))) rmL_grow2 (mP G w [va_rf (some b)]) (mQ mkR G w w' r) (rmL_grow2).cells (rmL_grow2).slots (Aw w) :=
  met_of (by decide +kernel) rfl (Nat.le_of_ble_eq_true rfl) (fun C hC hR _ _ _ hts hE => tL_grow2 (okC.tbl hC) hE hR  w hf)
set_option maxHeartbeats 4000000 in
set_option maxRecDepth 100000 in
theorem tL_add_b11 {C : xC} {G : cG} {w0 w' : cW} {r : Unit} {b : Nat} (hC : okC C prog_15_method_24_code 4 "java/util/ArrayList" lw_gd) (hE : xE C none mkV G w0 w' r) (hR : xR C = rmL_add)  (a1 : Option Nat) (a2 : Option Nat) (a3 : Int32) (c : Nat) (w : cW) (hf : fL_add_b11 b a1 a2 a3 c w = some (r, w')) : V C w (1 * c) (33 * c) 11 [(0, va_rf (some b)), (1, va_rf a1), (2, va_rf a2), (3, .int a3)] [] := by
  unfold fL_add_b11 at hf
  refine v_aload_n (pc := 11) (i := 2) (r := a2) hC dL_add_11 rfl 2 rfl ?_
  refine v_iload_n (pc := 12) (i := 3) (x := a3) hC dL_add_12 rfl 3 rfl ?_
  refine v_aload_n (pc := 13) (i := 1) (r := a1) hC dL_add_13 rfl 1 rfl ?_
  refine v_aast (pc := 14) hC (cAs_of hC) dL_add_14 hf (fun w1 hf => ?_)
  refine v_aload_n (pc := 15) (i := 0) (r := (some b)) hC dL_add_15 rfl 0 rfl ?_
  refine v_iload_n (pc := 16) (i := 3) (x := a3) hC dL_add_16 rfl 3 rfl ?_
  refine v_iconst (pc := 17) (v := (1 : Int32)) hC dL_add_17 (by decide) ?_
  refine v_iadd (pc := 18) hC dL_add_18 ?_
  refine v_putI (pc := 19) (r := (some b)) hC dL_add_19 inL rfl tyL tkL nmL 1 (by decide) q39 (Or.inl rfl) rfl (tkL 1 (by decide)) hf (fun w2 hf => ?_)
  by_cases ec3 : c < 2
  rotate_left
  · rw [if_neg ec3] at hf; cases hf
  rw [if_pos ec3] at hf
  exact v_vret (pc := 22) hC hE dL_add_22 (by rw [hR]; simp only [rmL_add]; omega) (by rw [hR]; simp only [rmL_add]; omega) hf
set_option maxHeartbeats 4000000 in
set_option maxRecDepth 100000 in
theorem tL_add {C : xC} {G : cG} {w0 w' : cW} {r : Unit} {b : Nat} (hC : okC C prog_15_method_24_code 4 "java/util/ArrayList" lw_gd) (hE : xE C none mkV G w0 w' r) (hR : xR C = rmL_add) (a1 : Nat) (a2 : Nat) (a3 : Int32) (w : cW) (hf : fL_add b a1 a2 a3 w = some (r, w')) : V C w 0 0 0 [(0, va_rf (some b)), (1, va_rf (some a1)), (2, va_rf (some a2)), (3, .int a3)] [] := by
  unfold fL_add at hf
  refine v_iload_n (pc := 0) (i := 3) (x := a3) hC dL_add_0 rfl 3 rfl ?_
  refine v_aload_n (pc := 1) (i := 2) (r := (some a2)) hC dL_add_1 rfl 2 rfl ?_
  refine v_alen (pc := 2) hC dL_add_2 hf (fun x1 hf => ?_)
  refine v_icmp_ne (pc := 3) (tgt := 11) hC dL_add_3 (by decide) hf (fun hf => ?_) (fun hf => ?_)
  · exact V.sub [0, 1, 2, 3] rfl (tL_add_b11 hC hE hR  _ _ _ _ _ hf)
  · refine v_aload_n (pc := 6) (i := 0) (r := (some b)) hC dL_add_6 rfl 0 rfl ?_
    refine v_callV (pc := 7) (r := (some b)) (As := []) (rest := []) (k' := 1) (n' := 33) (st1 := (fun y9 => [va_rf y9])) hC dL_add_7 q185 q187 p1 q4 q188 ykL_grow2 rfl rfl (fun b9 r9 w9 h9 => mL_grow2 _ _ b9  _ r9 w9 h9) (by rw [hR]; decide) (by simp only [List.map_cons, List.map_nil, va_cat]; exact Nat.le_of_ble_eq_true rfl) (by decide) (by rw [hR]; decide) hf rfl (fun _ => rfl) (fun r2 w3 hf => ?_)
    refine v_astore_n (pc := 10) (i := 2) (r := r2) hC dL_add_10 rfl (by decide) [(2, va_rf r2), (0, va_rf (some b)), (1, va_rf (some a1)), (3, .int a3)] rfl ?_
    exact V.sub [1, 2, 0, 3] rfl (tL_add_b11 hC hE hR  _ _ _ _ _ hf)
theorem mL_add (l : Launch) (G : cG) (b : Nat) (a1 : Nat) (a2 : Nat) (a3 : Int32) (w : cW) (r : Unit) (w' : cW) (hf : fL_add b a1 a2 a3 w = some (r, w')) : Met l yL_add (wsM yL_add prog_15_method_24_code 4 none) rmL_add (mP G w [va_rf (some b), va_rf (some a1), va_rf (some a2), .int a3]) (mQ mkV G w w' r) (rmL_add).cells (rmL_add).slots (Aw w) :=
  met_of (by decide +kernel) rfl (Nat.le_of_ble_eq_true rfl) (fun C hC hR _ _ _ hts hE => tL_add (okC.tbl hC) hE hR a1 a2 a3 w hf)
set_option maxHeartbeats 4000000 in
set_option maxRecDepth 100000 in
theorem tL_add2 {C : xC} {G : cG} {w0 w' : cW} {r : Int32} {b : Nat} (hC : okC C prog_15_method_25_code 2 "java/util/ArrayList" lw_gd) (hE : xE C (some .boolean) mkI G w0 w' r) (hR : xR C = rmL_add2) (a1 : Nat) (w : cW) (hf : fL_add2 b a1 w = some (r, w')) : V C w 0 0 0 [(0, va_rf (some b)), (1, va_rf (some a1))] [] := by
  unfold fL_add2 at hf
  refine v_aload_n (pc := 0) (i := 0) (r := (some b)) hC dL_add2_0 rfl 0 rfl ?_
  refine v_dupR (pc := 1) hC dL_add2_1 ?_
  refine v_getI (pc := 2) (r := (some b)) hC dL_add2_2 inL rfl 2 (by decide) q41 (Or.inr q42) hf (fun x1 hf => ?_)
  refine v_iconst (pc := 5) (v := (1 : Int32)) hC dL_add2_5 (by decide) ?_
  refine v_iadd (pc := 6) hC dL_add2_6 ?_
  refine v_putI (pc := 7) (r := (some b)) hC dL_add2_7 inL rfl tyL tkL nmL 2 (by decide) q41 (Or.inr q42) rfl (tkL 2 (by decide)) hf (fun w2 hf => ?_)
  refine v_aload_n (pc := 10) (i := 0) (r := (some b)) hC dL_add2_10 rfl 0 rfl ?_
  refine v_aload_n (pc := 11) (i := 1) (r := (some a1)) hC dL_add2_11 rfl 1 rfl ?_
  refine v_aload_n (pc := 12) (i := 0) (r := (some b)) hC dL_add2_12 rfl 0 rfl ?_
  refine v_getQ (pc := 13) (r := (some b)) hC dL_add2_13 inL rfl 0 (by decide) q38 (Or.inl rfl) hf (fun r3 hf => ?_)
  refine v_aload_n (pc := 16) (i := 0) (r := (some b)) hC dL_add2_16 rfl 0 rfl ?_
  refine v_getI (pc := 17) (r := (some b)) hC dL_add2_17 inL rfl 1 (by decide) q39 (Or.inl rfl) hf (fun x4 hf => ?_)
  obtain ⟨b5, eb5, hf1⟩ := ob hf
  clear hf
  cases eb5
  have hf := hf1
  clear hf1
  refine v_callV (pc := 20) (r := (some b)) (As := [va_rf (some a1), va_rf (some b5), .int x4]) (rest := []) (k' := 1) (n' := 33) (st1 := (fun y9 => [])) hC dL_add2_20 q181 q183 p0 q4 q184 ykL_add rfl rfl (fun b9 r9 w9 h9 => mL_add _ _ b9 a1 b5 x4 _ r9 w9 h9) (by rw [hR]; decide) (by simp only [List.map_cons, List.map_nil, va_cat]; exact Nat.le_of_ble_eq_true rfl) (by decide) (by rw [hR]; decide) hf rfl (fun _ => rfl) (fun u6 w7 hf => ?_)
  refine v_iconst (pc := 23) (v := (1 : Int32)) hC dL_add2_23 (by decide) ?_
  exact v_zret (pc := 24) hC hE dL_add2_24 (by rw [hR]; decide) (by rw [hR]; decide) (by rw [if_pos (by decide)]; exact hf)
theorem mL_add2 (l : Launch) (G : cG) (b : Nat) (a1 : Nat) (w : cW) (r : Int32) (w' : cW) (hf : fL_add2 b a1 w = some (r, w')) : Met l yL_add2 (wsM yL_add2 prog_15_method_25_code 2 (some .boolean)) rmL_add2 (mP G w [va_rf (some b), va_rf (some a1)]) (mQ mkI G w w' r) (rmL_add2).cells (rmL_add2).slots (Aw w) :=
  met_of (by decide +kernel) rfl (Nat.le_of_ble_eq_true rfl) (fun C hC hR _ _ _ hts hE => tL_add2 (okC.tbl hC) hE hR a1 w hf)
set_option maxHeartbeats 4000000 in
set_option maxRecDepth 100000 in
theorem tL_clear_l27 {C : xC} {G : cG} {w0 w' : cW} {r : Unit} {b : Nat} (hC : okC C prog_15_method_40_code 4 "java/util/ArrayList" lw_gd) (hE : xE C none mkV G w0 w' r) (hR : xR C = rmL_clear)  : ∀ n : Nat, ∀ (a1 : Option Nat) (a2 : Int32) (a3 : Int32) (w : cW), fL_clear_l27 b n a1 a2 a3 w = some (r, w') → V C w 0 0 27 [(1, va_rf a1), (2, .int a2), (3, .int a3)] [] := by
  refine lp_P (P := fun (f : (Option Nat) → Int32 → Int32 → cW → Option (Unit × cW)) => ∀ (a1 : Option Nat) (a2 : Int32) (a3 : Int32) (w : cW), f a1 a2 a3 w = some (r, w') → V C w 0 0 27 [(1, va_rf a1), (2, .int a2), (3, .int a3)] []) ?_ ?_
  · intro a1 a2 a3 w hf
    cases hf
  · intro rec27 hrec27 a1 a2 a3 w hf
    unfold fL_clear_b27 at hf
    refine v_iload_n (pc := 27) (i := 3) (x := a3) hC dL_clear_27 rfl 2 rfl ?_
    refine v_iload_n (pc := 28) (i := 2) (x := a2) hC dL_clear_28 rfl 1 rfl ?_
    refine v_icmp_ge (pc := 29) (tgt := 42) hC dL_clear_29 (by decide) hf (fun hf => ?_) (fun hf => ?_)
    · exact v_vret (pc := 42) hC hE dL_clear_42 (by rw [hR]; decide) (by rw [hR]; decide) hf
    · refine v_aload_n (pc := 32) (i := 1) (r := a1) hC dL_clear_32 rfl 0 rfl ?_
      refine v_iload_n (pc := 33) (i := 3) (x := a3) hC dL_clear_33 rfl 2 rfl ?_
      refine v_null (pc := 34) hC dL_clear_34 ?_
      refine v_aast (pc := 35) hC (cAs_of hC) dL_clear_35 hf (fun w1 hf => ?_)
      refine v_iincB (pc := 36) (i := 3) (x := a3) (v := (1 : Int32)) hC dL_clear_36 2 rfl (by decide) (by decide) (fun x2 => [(3, .int x2), (1, va_rf a1), (2, .int a2)]) (fun _ => rfl) hf (fun x2 hf => ?_)
      refine v_goto (pc := 39) (tgt := 27) hC dL_clear_39 (by decide) ?_
      exact V.sub [1, 2, 0] rfl (hrec27 _ _ _ _ hf)
set_option maxHeartbeats 4000000 in
set_option maxRecDepth 100000 in
theorem tL_clear {C : xC} {G : cG} {w0 w' : cW} {r : Unit} {b : Nat} (hC : okC C prog_15_method_40_code 4 "java/util/ArrayList" lw_gd) (hE : xE C none mkV G w0 w' r) (hR : xR C = rmL_clear)  (w : cW) (hf : fL_clear b w = some (r, w')) : V C w 0 0 0 [(0, va_rf (some b))] [] := by
  unfold fL_clear at hf
  refine v_aload_n (pc := 0) (i := 0) (r := (some b)) hC dL_clear_0 rfl 0 rfl ?_
  refine v_dupR (pc := 1) hC dL_clear_1 ?_
  refine v_getI (pc := 2) (r := (some b)) hC dL_clear_2 inL rfl 2 (by decide) q41 (Or.inr q42) hf (fun x1 hf => ?_)
  refine v_iconst (pc := 5) (v := (1 : Int32)) hC dL_clear_5 (by decide) ?_
  refine v_iadd (pc := 6) hC dL_clear_6 ?_
  refine v_putI (pc := 7) (r := (some b)) hC dL_clear_7 inL rfl tyL tkL nmL 2 (by decide) q41 (Or.inr q42) rfl (tkL 2 (by decide)) hf (fun w2 hf => ?_)
  refine v_aload_n (pc := 10) (i := 0) (r := (some b)) hC dL_clear_10 rfl 0 rfl ?_
  refine v_getQ (pc := 11) (r := (some b)) hC dL_clear_11 inL rfl 0 (by decide) q38 (Or.inl rfl) hf (fun r3 hf => ?_)
  refine v_astore_n (pc := 14) (i := 1) (r := r3) hC dL_clear_14 rfl (by decide) [(1, va_rf r3), (0, va_rf (some b))] rfl ?_
  refine v_aload_n (pc := 15) (i := 0) (r := (some b)) hC dL_clear_15 rfl 1 rfl ?_
  refine v_getI (pc := 16) (r := (some b)) hC dL_clear_16 inL rfl 1 (by decide) q39 (Or.inl rfl) hf (fun x4 hf => ?_)
  refine v_istore_n (pc := 19) (i := 2) (x := x4) hC dL_clear_19 rfl (by decide) [(2, .int x4), (1, va_rf r3), (0, va_rf (some b))] (by cases r3 <;> rfl) ?_
  refine v_aload_n (pc := 20) (i := 0) (r := (some b)) hC dL_clear_20 rfl 2 rfl ?_
  refine v_iconst (pc := 21) (v := (0 : Int32)) hC dL_clear_21 (by decide) ?_
  refine v_dup_x1R (pc := 22) hC dL_clear_22 ?_
  refine v_putI (pc := 23) (r := (some b)) hC dL_clear_23 inL rfl tyL tkL nmL 1 (by decide) q39 (Or.inl rfl) rfl (tkL 1 (by decide)) hf (fun w5 hf => ?_)
  refine v_istore_n (pc := 26) (i := 3) (x := (0 : Int32)) hC dL_clear_26 rfl (by decide) [(3, .int (0 : Int32)), (2, .int x4), (1, va_rf r3), (0, va_rf (some b))] rfl ?_
  exact V.sub [2, 1, 0] rfl (tL_clear_l27 hC hE hR  FU _ _ _ _ hf)
theorem mL_clear (l : Launch) (G : cG) (b : Nat)  (w : cW) (r : Unit) (w' : cW) (hf : fL_clear b w = some (r, w')) : Met l yL_clear (wsM yL_clear prog_15_method_40_code 4 none) rmL_clear (mP G w [va_rf (some b)]) (mQ mkV G w w' r) (rmL_clear).cells (rmL_clear).slots (Aw w) :=
  met_of (by decide +kernel) rfl (Nat.le_of_ble_eq_true rfl) (fun C hC hR _ _ _ hts hE => tL_clear (okC.tbl hC) hE hR  w hf)
end

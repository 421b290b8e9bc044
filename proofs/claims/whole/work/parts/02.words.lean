/-! words that are not in the methods' own lists -/
def lw_ex : List Cond := [(Jvm.Cond.arrayOver (Jvm.ClassFile.FieldType.object "java/lang/Object")), (Jvm.Cond.declares ({ cls := "java/lang/Object", name := "getClass", desc := "()Ljava/lang/Class;" } : Jvm.MethodName)), (Jvm.Cond.methodLinkNest "ArenaNetwork$Scale" (19 : Nat) ({ cls := "ArenaNetwork", name := "rounded", desc := "(JJ)J" } : Jvm.MethodName) "ArenaNetwork"), (Jvm.Cond.methodLinkNest "ArenaNetwork$Operator" (34 : Nat) ({ cls := "ArenaNetwork", name := "isWithin", desc := "(III)Z" } : Jvm.MethodName) "ArenaNetwork"), (Jvm.Cond.methodLinkNest "ArenaNetwork$Operator" (71 : Nat) ({ cls := "ArenaNetwork", name := "rounded", desc := "(JJ)J" } : Jvm.MethodName) "ArenaNetwork"), (Jvm.Cond.methodLinkNest "ArenaNetwork" (40 : Nat) ({ cls := "ArenaNetwork$Scale", name := "<init>", desc := "()V" } : Jvm.MethodName) "ArenaNetwork"), (Jvm.Cond.arrayOver (Jvm.ClassFile.FieldType.object "ArenaNetwork$Scale")), (Jvm.Cond.methodLinkNest "ArenaNetwork" (27 : Nat) ({ cls := "ArenaNetwork$Arena", name := "<init>", desc := "()V" } : Jvm.MethodName) "ArenaNetwork"), (Jvm.Cond.castable "ArenaNetwork$Tensor" "java/lang/Object"), (Jvm.Cond.castable "ArenaNetwork$Operator" "java/lang/Object")]
theorem x221 : (Jvm.Cond.arrayOver (Jvm.ClassFile.FieldType.object "java/lang/Object")) ∈ lw_ex := List.mem_of_getElem? (i := 0) rfl
theorem x676 : (Jvm.Cond.declares ({ cls := "java/lang/Object", name := "getClass", desc := "()Ljava/lang/Class;" } : Jvm.MethodName)) ∈ lw_ex := List.mem_of_getElem? (i := 1) rfl
theorem x403 : (Jvm.Cond.methodLinkNest "ArenaNetwork$Scale" (19 : Nat) ({ cls := "ArenaNetwork", name := "rounded", desc := "(JJ)J" } : Jvm.MethodName) "ArenaNetwork") ∈ lw_ex := List.mem_of_getElem? (i := 2) rfl
theorem x318 : (Jvm.Cond.methodLinkNest "ArenaNetwork$Operator" (34 : Nat) ({ cls := "ArenaNetwork", name := "isWithin", desc := "(III)Z" } : Jvm.MethodName) "ArenaNetwork") ∈ lw_ex := List.mem_of_getElem? (i := 3) rfl
theorem x424 : (Jvm.Cond.methodLinkNest "ArenaNetwork$Operator" (71 : Nat) ({ cls := "ArenaNetwork", name := "rounded", desc := "(JJ)J" } : Jvm.MethodName) "ArenaNetwork") ∈ lw_ex := List.mem_of_getElem? (i := 4) rfl
theorem x70 : (Jvm.Cond.methodLinkNest "ArenaNetwork" (40 : Nat) ({ cls := "ArenaNetwork$Scale", name := "<init>", desc := "()V" } : Jvm.MethodName) "ArenaNetwork") ∈ lw_ex := List.mem_of_getElem? (i := 5) rfl
theorem x51 : (Jvm.Cond.arrayOver (Jvm.ClassFile.FieldType.object "ArenaNetwork$Scale")) ∈ lw_ex := List.mem_of_getElem? (i := 6) rfl
theorem x54 : (Jvm.Cond.methodLinkNest "ArenaNetwork" (27 : Nat) ({ cls := "ArenaNetwork$Arena", name := "<init>", desc := "()V" } : Jvm.MethodName) "ArenaNetwork") ∈ lw_ex := List.mem_of_getElem? (i := 7) rfl
theorem x681 : (Jvm.Cond.castable "ArenaNetwork$Tensor" "java/lang/Object") ∈ lw_ex := List.mem_of_getElem? (i := 8) rfl
theorem x682 : (Jvm.Cond.castable "ArenaNetwork$Operator" "java/lang/Object") ∈ lw_ex := List.mem_of_getElem? (i := 9) rfl
theorem lw_ex_cases {P : Cond → Prop} (h221 : P (Jvm.Cond.arrayOver (Jvm.ClassFile.FieldType.object "java/lang/Object"))) (h676 : P (Jvm.Cond.declares ({ cls := "java/lang/Object", name := "getClass", desc := "()Ljava/lang/Class;" } : Jvm.MethodName))) (h403 : P (Jvm.Cond.methodLinkNest "ArenaNetwork$Scale" (19 : Nat) ({ cls := "ArenaNetwork", name := "rounded", desc := "(JJ)J" } : Jvm.MethodName) "ArenaNetwork")) (h318 : P (Jvm.Cond.methodLinkNest "ArenaNetwork$Operator" (34 : Nat) ({ cls := "ArenaNetwork", name := "isWithin", desc := "(III)Z" } : Jvm.MethodName) "ArenaNetwork")) (h424 : P (Jvm.Cond.methodLinkNest "ArenaNetwork$Operator" (71 : Nat) ({ cls := "ArenaNetwork", name := "rounded", desc := "(JJ)J" } : Jvm.MethodName) "ArenaNetwork")) (h70 : P (Jvm.Cond.methodLinkNest "ArenaNetwork" (40 : Nat) ({ cls := "ArenaNetwork$Scale", name := "<init>", desc := "()V" } : Jvm.MethodName) "ArenaNetwork")) (h51 : P (Jvm.Cond.arrayOver (Jvm.ClassFile.FieldType.object "ArenaNetwork$Scale"))) (h54 : P (Jvm.Cond.methodLinkNest "ArenaNetwork" (27 : Nat) ({ cls := "ArenaNetwork$Arena", name := "<init>", desc := "()V" } : Jvm.MethodName) "ArenaNetwork")) (h681 : P (Jvm.Cond.castable "ArenaNetwork$Tensor" "java/lang/Object")) (h682 : P (Jvm.Cond.castable "ArenaNetwork$Operator" "java/lang/Object")) : ∀ x ∈ lw_ex, P x := by
  intro x hx
  unfold lw_ex at hx
  simp only [List.mem_cons, List.not_mem_nil, or_false] at hx
  rcases hx with rfl | rfl | rfl | rfl | rfl | rfl | rfl | rfl | rfl | rfl
  · exact h221
  · exact h676
  · exact h403
  · exact h318
  · exact h424
  · exact h70
  · exact h51
  · exact h54
  · exact h681
  · exact h682
theorem lw_ex_stays : ∀ x ∈ lw_ex, ∀ s U : State, s.WarmedH U.vm → va_Nw x s → va_Nw x U := lw_ex_cases (fun s U hW h => va_AO.moved hW.alike h) (fun s U hW h => va_Dc.moved hW.alike h) (fun s U hW h => va_Nw.warmM hW h) (fun s U hW h => va_Nw.warmM hW h) (fun s U hW h => va_Nw.warmM hW h) (fun s U hW h => va_Nw.warmM hW h) (fun s U hW h => va_AO.moved hW.alike h) (fun s U hW h => va_Nw.warmM hW h) (fun s U hW h => va_Nw.warmC hW h) (fun s U hW h => va_Nw.warmC hW h)
theorem lw_ex_tab : ∀ x ∈ lw_ex, x.onTables = true := lw_ex_cases rfl rfl rfl rfl rfl rfl rfl rfl rfl rfl
theorem lw_ex_in : ∀ x ∈ lw_ex, x ∈ lw_tbl := lw_ex_cases (List.mem_of_getElem? (i := 256) rfl) (List.mem_of_getElem? (i := 711) rfl) (List.mem_of_getElem? (i := 438) rfl) (List.mem_of_getElem? (i := 353) rfl) (List.mem_of_getElem? (i := 459) rfl) (List.mem_of_getElem? (i := 105) rfl) (List.mem_of_getElem? (i := 86) rfl) (List.mem_of_getElem? (i := 89) rfl) (List.mem_of_getElem? (i := 716) rfl) (List.mem_of_getElem? (i := 717) rfl)

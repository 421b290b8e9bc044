set_option maxRecDepth 100000 in
theorem inN : ∀ x ∈ u_ws "ArenaNetwork" TN 6, x ∈ lw_gd := by
  intro x hx
  obtain ⟨k, hk, rfl⟩ := List.mem_map.mp hx
  have hk := List.mem_range.mp hk
  rcases (show k = 0 ∨ k = 1 ∨ k = 2 ∨ k = 3 ∨ k = 4 ∨ k = 5 by omega) with rfl | rfl | rfl | rfl | rfl | rfl
  · exact tin 125 rfl
  · exact tin 127 rfl
  · exact tin 129 rfl
  · exact tin 131 rfl
  · exact tin 133 rfl
  · exact tin 135 rfl
set_option maxRecDepth 100000 in
theorem inA : ∀ x ∈ u_ws "ArenaNetwork$Arena" TA 2, x ∈ lw_gd := by
  intro x hx
  obtain ⟨k, hk, rfl⟩ := List.mem_map.mp hx
  have hk := List.mem_range.mp hk
  rcases (show k = 0 ∨ k = 1 by omega) with rfl | rfl
  · exact tin 99 rfl
  · exact tin 101 rfl
set_option maxRecDepth 100000 in
theorem inO : ∀ x ∈ u_ws "ArenaNetwork$Operator" TO 5, x ∈ lw_gd := by
  intro x hx
  obtain ⟨k, hk, rfl⟩ := List.mem_map.mp hx
  have hk := List.mem_range.mp hk
  rcases (show k = 0 ∨ k = 1 ∨ k = 2 ∨ k = 3 ∨ k = 4 by omega) with rfl | rfl | rfl | rfl | rfl
  · exact tin 318 rfl
  · exact tin 320 rfl
  · exact tin 322 rfl
  · exact tin 324 rfl
  · exact tin 326 rfl
set_option maxRecDepth 100000 in
theorem inS : ∀ x ∈ u_ws "ArenaNetwork$Scale" TS 2, x ∈ lw_gd := by
  intro x hx
  obtain ⟨k, hk, rfl⟩ := List.mem_map.mp hx
  have hk := List.mem_range.mp hk
  rcases (show k = 0 ∨ k = 1 by omega) with rfl | rfl
  · exact tin 114 rfl
  · exact tin 116 rfl
set_option maxRecDepth 100000 in
theorem inT : ∀ x ∈ u_ws "ArenaNetwork$Tensor" TT 11, x ∈ lw_gd := by
  intro x hx
  obtain ⟨k, hk, rfl⟩ := List.mem_map.mp hx
  have hk := List.mem_range.mp hk
  rcases (show k = 0 ∨ k = 1 ∨ k = 2 ∨ k = 3 ∨ k = 4 ∨ k = 5 ∨ k = 6 ∨ k = 7 ∨ k = 8 ∨ k = 9 ∨ k = 10 by omega) with rfl | rfl | rfl | rfl | rfl | rfl | rfl | rfl | rfl | rfl | rfl
  · exact tin 188 rfl
  · exact tin 190 rfl
  · exact tin 192 rfl
  · exact tin 194 rfl
  · exact tin 196 rfl
  · exact tin 198 rfl
  · exact tin 200 rfl
  · exact tin 202 rfl
  · exact tin 204 rfl
  · exact tin 206 rfl
  · exact tin 208 rfl
set_option maxRecDepth 100000 in
theorem inM : ∀ x ∈ u_ws "ArenaNetworkModel" TM 19, x ∈ lw_gd := by
  intro x hx
  obtain ⟨k, hk, rfl⟩ := List.mem_map.mp hx
  have hk := List.mem_range.mp hk
  rcases (show k = 0 ∨ k = 1 ∨ k = 2 ∨ k = 3 ∨ k = 4 ∨ k = 5 ∨ k = 6 ∨ k = 7 ∨ k = 8 ∨ k = 9 ∨ k = 10 ∨ k = 11 ∨ k = 12 ∨ k = 13 ∨ k = 14 ∨ k = 15 ∨ k = 16 ∨ k = 17 ∨ k = 18 by omega) with rfl | rfl | rfl | rfl | rfl | rfl | rfl | rfl | rfl | rfl | rfl | rfl | rfl | rfl | rfl | rfl | rfl | rfl | rfl
  · exact tin 529 rfl
  · exact tin 531 rfl
  · exact tin 533 rfl
  · exact tin 535 rfl
  · exact tin 537 rfl
  · exact tin 539 rfl
  · exact tin 541 rfl
  · exact tin 543 rfl
  · exact tin 545 rfl
  · exact tin 547 rfl
  · exact tin 549 rfl
  · exact tin 551 rfl
  · exact tin 553 rfl
  · exact tin 555 rfl
  · exact tin 557 rfl
  · exact tin 559 rfl
  · exact tin 561 rfl
  · exact tin 563 rfl
  · exact tin 565 rfl
set_option maxRecDepth 100000 in
theorem inL : ∀ x ∈ u_ws "java/util/ArrayList" TL 3, x ∈ lw_gd := by
  intro x hx
  obtain ⟨k, hk, rfl⟩ := List.mem_map.mp hx
  have hk := List.mem_range.mp hk
  rcases (show k = 0 ∨ k = 1 ∨ k = 2 by omega) with rfl | rfl | rfl
  · exact tin 78 rfl
  · exact tin 80 rfl
  · exact tin 82 rfl
set_option maxRecDepth 100000 in
theorem q1 : (Jvm.Cond.initialized "ArenaNetwork") ∈ lw_gd := tin 36 rfl
set_option maxRecDepth 100000 in
theorem q2 : (Jvm.Cond.initialized "java/util/AbstractCollection") ∈ lw_gd := tin 37 rfl
set_option maxRecDepth 100000 in
theorem q3 : (Jvm.Cond.initialized "java/util/AbstractList") ∈ lw_gd := tin 38 rfl
set_option maxRecDepth 100000 in
theorem q4 : (Jvm.Cond.initialized "java/util/ArrayList") ∈ lw_gd := tin 39 rfl
set_option maxRecDepth 100000 in
theorem q5 : (Jvm.Cond.initialized "ArenaNetwork$Arena") ∈ lw_gd := tin 40 rfl
set_option maxRecDepth 100000 in
theorem q6 : (Jvm.Cond.initialized "ArenaNetwork$Scale") ∈ lw_gd := tin 41 rfl
set_option maxRecDepth 100000 in
theorem q7 : (Jvm.Cond.initialized "ArenaNetworkModel") ∈ lw_gd := tin 42 rfl
set_option maxRecDepth 100000 in
theorem q8 : (Jvm.Cond.initialized "ArenaNetwork$Tensor") ∈ lw_gd := tin 43 rfl
set_option maxRecDepth 100000 in
theorem q9 : (Jvm.Cond.initialized "jdk/internal/util/ArraysSupport") ∈ lw_gd := tin 44 rfl
set_option maxRecDepth 100000 in
theorem q10 : (Jvm.Cond.initialized "java/lang/Math") ∈ lw_gd := tin 45 rfl
set_option maxRecDepth 100000 in
theorem q11 : (Jvm.Cond.initialized "java/util/Arrays") ∈ lw_gd := tin 46 rfl
set_option maxRecDepth 100000 in
theorem q12 : (Jvm.Cond.initialized "java/lang/System") ∈ lw_gd := tin 47 rfl
set_option maxRecDepth 100000 in
theorem q13 : (Jvm.Cond.initialized "java/util/Objects") ∈ lw_gd := tin 48 rfl
set_option maxRecDepth 100000 in
theorem q14 : (Jvm.Cond.initialized "jdk/internal/util/Preconditions") ∈ lw_gd := tin 49 rfl
set_option maxRecDepth 100000 in
theorem q15 : (Jvm.Cond.initialized "ArenaNetwork$Operator") ∈ lw_gd := tin 50 rfl
set_option maxRecDepth 100000 in
theorem q16 : (Jvm.Cond.classLink "ArenaNetworkLaw" (7 : Nat) "ArenaNetwork") ∈ lw_gd := tin 51 rfl
set_option maxRecDepth 100000 in
theorem q17 : (Jvm.Cond.instantiable "ArenaNetwork" (6 : Nat)) ∈ lw_gd := tin 52 rfl
set_option maxRecDepth 100000 in
theorem q18 : (Jvm.Cond.methodLink "ArenaNetworkLaw" (9 : Nat) ({ cls := "ArenaNetwork", name := "<init>", desc := "()V" } : Jvm.MethodName)) ∈ lw_gd := tin 53 rfl
set_option maxRecDepth 100000 in
theorem q19 : (Jvm.Cond.instanceMethod ({ cls := "ArenaNetwork", name := "<init>", desc := "()V" } : Jvm.MethodName)) ∈ lw_gd := tin 54 rfl
set_option maxRecDepth 100000 in
theorem q20 : (Jvm.Cond.code ({ cls := "ArenaNetwork", name := "<init>", desc := "()V" } : Jvm.MethodName) prog_1_method_1_code (2 : Nat) (Option.none : Option Jvm.ClassFile.FieldType)) ∈ lw_gd := tin 55 rfl
set_option maxRecDepth 100000 in
theorem q21 : (Jvm.Cond.methodLink "ArenaNetwork" (1 : Nat) ({ cls := "java/lang/Object", name := "<init>", desc := "()V" } : Jvm.MethodName)) ∈ lw_gd := tin 56 rfl
set_option maxRecDepth 100000 in
theorem q22 : (Jvm.Cond.instanceMethod ({ cls := "java/lang/Object", name := "<init>", desc := "()V" } : Jvm.MethodName)) ∈ lw_gd := tin 57 rfl
set_option maxRecDepth 100000 in
theorem q23 : (Jvm.Cond.code ({ cls := "java/lang/Object", name := "<init>", desc := "()V" } : Jvm.MethodName) object_method_1_code (1 : Nat) (Option.none : Option Jvm.ClassFile.FieldType)) ∈ lw_gd := tin 58 rfl
set_option maxRecDepth 100000 in
theorem q24 : (Jvm.Cond.classLink "ArenaNetwork" (7 : Nat) "java/util/ArrayList") ∈ lw_gd := tin 59 rfl
set_option maxRecDepth 100000 in
theorem q25 : (Jvm.Cond.instantiable "java/util/ArrayList" (3 : Nat)) ∈ lw_gd := tin 60 rfl
set_option maxRecDepth 100000 in
theorem q26 : (Jvm.Cond.methodLink "ArenaNetwork" (9 : Nat) ({ cls := "java/util/ArrayList", name := "<init>", desc := "()V" } : Jvm.MethodName)) ∈ lw_gd := tin 61 rfl
set_option maxRecDepth 100000 in
theorem q27 : (Jvm.Cond.instanceMethod ({ cls := "java/util/ArrayList", name := "<init>", desc := "()V" } : Jvm.MethodName)) ∈ lw_gd := tin 62 rfl
set_option maxRecDepth 100000 in
theorem q28 : (Jvm.Cond.code ({ cls := "java/util/ArrayList", name := "<init>", desc := "()V" } : Jvm.MethodName) prog_15_method_2_code (1 : Nat) (Option.none : Option Jvm.ClassFile.FieldType)) ∈ lw_gd := tin 63 rfl
set_option maxRecDepth 100000 in
theorem q29 : (Jvm.Cond.methodLink "java/util/ArrayList" (1 : Nat) ({ cls := "java/util/AbstractList", name := "<init>", desc := "()V" } : Jvm.MethodName)) ∈ lw_gd := tin 64 rfl
set_option maxRecDepth 100000 in
theorem q30 : (Jvm.Cond.instanceMethod ({ cls := "java/util/AbstractList", name := "<init>", desc := "()V" } : Jvm.MethodName)) ∈ lw_gd := tin 65 rfl
set_option maxRecDepth 100000 in
theorem q31 : (Jvm.Cond.code ({ cls := "java/util/AbstractList", name := "<init>", desc := "()V" } : Jvm.MethodName) prog_14_method_1_code (1 : Nat) (Option.none : Option Jvm.ClassFile.FieldType)) ∈ lw_gd := tin 66 rfl
set_option maxRecDepth 100000 in
theorem q32 : (Jvm.Cond.methodLink "java/util/AbstractList" (1 : Nat) ({ cls := "java/util/AbstractCollection", name := "<init>", desc := "()V" } : Jvm.MethodName)) ∈ lw_gd := tin 67 rfl
set_option maxRecDepth 100000 in
theorem q33 : (Jvm.Cond.instanceMethod ({ cls := "java/util/AbstractCollection", name := "<init>", desc := "()V" } : Jvm.MethodName)) ∈ lw_gd := tin 68 rfl
set_option maxRecDepth 100000 in
theorem q34 : (Jvm.Cond.code ({ cls := "java/util/AbstractCollection", name := "<init>", desc := "()V" } : Jvm.MethodName) prog_13_method_1_code (1 : Nat) (Option.none : Option Jvm.ClassFile.FieldType)) ∈ lw_gd := tin 69 rfl
set_option maxRecDepth 100000 in
theorem q35 : (Jvm.Cond.methodLink "java/util/AbstractCollection" (1 : Nat) ({ cls := "java/lang/Object", name := "<init>", desc := "()V" } : Jvm.MethodName)) ∈ lw_gd := tin 70 rfl
set_option maxRecDepth 100000 in
theorem q36 : (Jvm.Cond.fieldLink "java/util/ArrayList" (39 : Nat) "java/util/ArrayList" "DEFAULTCAPACITY_EMPTY_ELEMENTDATA" "[Ljava/lang/Object;") ∈ lw_gd := tin 71 rfl
set_option maxRecDepth 100000 in
theorem q38 : (Jvm.Cond.fieldLink "java/util/ArrayList" (9 : Nat) "java/util/ArrayList" "elementData" "[Ljava/lang/Object;") ∈ lw_gd := tin 73 rfl
set_option maxRecDepth 100000 in
theorem q39 : (Jvm.Cond.fieldLink "java/util/ArrayList" (48 : Nat) "java/util/ArrayList" "size" "I") ∈ lw_gd := tin 74 rfl
set_option maxRecDepth 100000 in
theorem q40 : (Jvm.Cond.fieldLink "java/util/AbstractList" (7 : Nat) "java/util/AbstractList" "modCount" "I") ∈ lw_gd := tin 75 rfl
set_option maxRecDepth 100000 in
theorem q41 : (Jvm.Cond.fieldLink "java/util/ArrayList" (63 : Nat) "java/util/ArrayList" "modCount" "I") ∈ lw_gd := tin 76 rfl
set_option maxRecDepth 100000 in
theorem q42 : (Jvm.Cond.sameField "java/util/ArrayList" "java/util/AbstractList" "modCount" "I") ∈ lw_gd := tin 77 rfl
set_option maxRecDepth 100000 in
theorem q50 : (Jvm.Cond.classLink "ArenaNetwork" (19 : Nat) "ArenaNetwork$Scale") ∈ lw_gd := tin 85 rfl
set_option maxRecDepth 100000 in
theorem q52 : (Jvm.Cond.classLink "ArenaNetwork" (25 : Nat) "ArenaNetwork$Arena") ∈ lw_gd := tin 87 rfl
set_option maxRecDepth 100000 in
theorem q53 : (Jvm.Cond.instantiable "ArenaNetwork$Arena" (2 : Nat)) ∈ lw_gd := tin 88 rfl
set_option maxRecDepth 100000 in
theorem q55 : (Jvm.Cond.instanceMethod ({ cls := "ArenaNetwork$Arena", name := "<init>", desc := "()V" } : Jvm.MethodName)) ∈ lw_gd := tin 90 rfl
set_option maxRecDepth 100000 in
theorem q56 : (Jvm.Cond.code ({ cls := "ArenaNetwork$Arena", name := "<init>", desc := "()V" } : Jvm.MethodName) prog_2_method_1_code (1 : Nat) (Option.none : Option Jvm.ClassFile.FieldType)) ∈ lw_gd := tin 91 rfl
set_option maxRecDepth 100000 in
theorem q57 : (Jvm.Cond.methodLink "ArenaNetwork$Arena" (5 : Nat) ({ cls := "java/lang/Object", name := "<init>", desc := "()V" } : Jvm.MethodName)) ∈ lw_gd := tin 92 rfl
set_option maxRecDepth 100000 in
theorem q58 : (Jvm.Cond.classLink "ArenaNetwork$Arena" (11 : Nat) "java/util/ArrayList") ∈ lw_gd := tin 93 rfl
set_option maxRecDepth 100000 in
theorem q59 : (Jvm.Cond.methodLink "ArenaNetwork$Arena" (13 : Nat) ({ cls := "java/util/ArrayList", name := "<init>", desc := "()V" } : Jvm.MethodName)) ∈ lw_gd := tin 94 rfl
set_option maxRecDepth 100000 in
theorem q60 : (Jvm.Cond.fieldLink "ArenaNetwork$Arena" (14 : Nat) "ArenaNetwork$Arena" "order" "Ljava/util/ArrayList;") ∈ lw_gd := tin 95 rfl
set_option maxRecDepth 100000 in
theorem q61 : (Jvm.Cond.fieldLink "ArenaNetwork" (138 : Nat) "ArenaNetwork$Arena" "order" "Ljava/util/ArrayList;") ∈ lw_gd := tin 96 rfl
set_option maxRecDepth 100000 in
theorem q62 : (Jvm.Cond.fieldLink "ArenaNetwork$Arena" (20 : Nat) "ArenaNetwork$Arena" "length" "I") ∈ lw_gd := tin 97 rfl
set_option maxRecDepth 100000 in
theorem q63 : (Jvm.Cond.fieldLink "ArenaNetwork" (107 : Nat) "ArenaNetwork$Arena" "length" "I") ∈ lw_gd := tin 98 rfl
set_option maxRecDepth 100000 in
theorem q69 : (Jvm.Cond.instantiable "ArenaNetwork$Scale" (2 : Nat)) ∈ lw_gd := tin 104 rfl
set_option maxRecDepth 100000 in
theorem q71 : (Jvm.Cond.instanceMethod ({ cls := "ArenaNetwork$Scale", name := "<init>", desc := "()V" } : Jvm.MethodName)) ∈ lw_gd := tin 106 rfl
set_option maxRecDepth 100000 in
theorem q72 : (Jvm.Cond.code ({ cls := "ArenaNetwork$Scale", name := "<init>", desc := "()V" } : Jvm.MethodName) prog_4_method_1_code (1 : Nat) (Option.none : Option Jvm.ClassFile.FieldType)) ∈ lw_gd := tin 107 rfl
set_option maxRecDepth 100000 in
theorem q73 : (Jvm.Cond.methodLink "ArenaNetwork$Scale" (1 : Nat) ({ cls := "java/lang/Object", name := "<init>", desc := "()V" } : Jvm.MethodName)) ∈ lw_gd := tin 108 rfl
set_option maxRecDepth 100000 in
theorem q74 : (Jvm.Cond.constant "ArenaNetwork$Scale" (7 : Nat) (1073741824 : Int32)) ∈ lw_gd := tin 109 rfl
set_option maxRecDepth 100000 in
theorem q75 : (Jvm.Cond.fieldLink "ArenaNetwork$Scale" (8 : Nat) "ArenaNetwork$Scale" "multiplier" "I") ∈ lw_gd := tin 110 rfl
set_option maxRecDepth 100000 in
theorem q76 : (Jvm.Cond.fieldLink "ArenaNetwork" (83 : Nat) "ArenaNetwork$Scale" "multiplier" "I") ∈ lw_gd := tin 111 rfl
set_option maxRecDepth 100000 in
theorem q77 : (Jvm.Cond.fieldLink "ArenaNetwork$Scale" (14 : Nat) "ArenaNetwork$Scale" "shift" "I") ∈ lw_gd := tin 112 rfl
set_option maxRecDepth 100000 in
theorem q78 : (Jvm.Cond.fieldLink "ArenaNetwork" (86 : Nat) "ArenaNetwork$Scale" "shift" "I") ∈ lw_gd := tin 113 rfl
set_option maxRecDepth 100000 in
theorem q84 : (Jvm.Cond.fieldLink "ArenaNetwork" (10 : Nat) "ArenaNetwork" "tensors" "Ljava/util/ArrayList;") ∈ lw_gd := tin 119 rfl
set_option maxRecDepth 100000 in
theorem q85 : (Jvm.Cond.fieldLink "ArenaNetwork" (16 : Nat) "ArenaNetwork" "operators" "Ljava/util/ArrayList;") ∈ lw_gd := tin 120 rfl
set_option maxRecDepth 100000 in
theorem q86 : (Jvm.Cond.fieldLink "ArenaNetwork" (21 : Nat) "ArenaNetwork" "scales" "[LArenaNetwork$Scale;") ∈ lw_gd := tin 121 rfl
set_option maxRecDepth 100000 in
theorem q87 : (Jvm.Cond.fieldLink "ArenaNetwork" (28 : Nat) "ArenaNetwork" "arena" "LArenaNetwork$Arena;") ∈ lw_gd := tin 122 rfl
set_option maxRecDepth 100000 in
theorem q88 : (Jvm.Cond.fieldLink "ArenaNetwork" (32 : Nat) "ArenaNetwork" "prepared" "Z") ∈ lw_gd := tin 123 rfl
set_option maxRecDepth 100000 in
theorem q89 : (Jvm.Cond.fieldLink "ArenaNetwork" (36 : Nat) "ArenaNetwork" "done" "I") ∈ lw_gd := tin 124 rfl
set_option maxRecDepth 100000 in
theorem q103 : (Jvm.Cond.methodLink "ArenaNetworkLaw" (13 : Nat) ({ cls := "ArenaNetwork", name := "tensor", desc := "(III)I" } : Jvm.MethodName)) ∈ lw_gd := tin 138 rfl
set_option maxRecDepth 100000 in
theorem q104 : (Jvm.Cond.instanceMethod ({ cls := "ArenaNetwork", name := "tensor", desc := "(III)I" } : Jvm.MethodName)) ∈ lw_gd := tin 139 rfl
set_option maxRecDepth 100000 in
theorem q105 : (Jvm.Cond.selects "ArenaNetwork" ({ cls := "ArenaNetwork", name := "tensor", desc := "(III)I" } : Jvm.MethodName) ({ cls := "ArenaNetwork", name := "tensor", desc := "(III)I" } : Jvm.MethodName)) ∈ lw_gd := tin 140 rfl
set_option maxRecDepth 100000 in
theorem q106 : (Jvm.Cond.code ({ cls := "ArenaNetwork", name := "tensor", desc := "(III)I" } : Jvm.MethodName) prog_1_method_2_code (5 : Nat) (Option.some Jvm.ClassFile.FieldType.int)) ∈ lw_gd := tin 141 rfl
set_option maxRecDepth 100000 in
theorem q107 : (Jvm.Cond.methodLink "ArenaNetwork" (43 : Nat) ({ cls := "ArenaNetwork", name := "isWithin", desc := "(III)Z" } : Jvm.MethodName)) ∈ lw_gd := tin 142 rfl
set_option maxRecDepth 100000 in
theorem q108 : (Jvm.Cond.static ({ cls := "ArenaNetwork", name := "isWithin", desc := "(III)Z" } : Jvm.MethodName)) ∈ lw_gd := tin 143 rfl
set_option maxRecDepth 100000 in
theorem q109 : (Jvm.Cond.code ({ cls := "ArenaNetwork", name := "isWithin", desc := "(III)Z" } : Jvm.MethodName) prog_1_method_27_code (3 : Nat) (Option.some Jvm.ClassFile.FieldType.boolean)) ∈ lw_gd := tin 144 rfl
set_option maxRecDepth 100000 in
theorem q110 : (Jvm.Cond.methodLink "ArenaNetwork" (47 : Nat) ({ cls := "ArenaNetwork$Tensor", name := "greatestLength", desc := "(I)I" } : Jvm.MethodName)) ∈ lw_gd := tin 145 rfl
set_option maxRecDepth 100000 in
theorem q111 : (Jvm.Cond.static ({ cls := "ArenaNetwork$Tensor", name := "greatestLength", desc := "(I)I" } : Jvm.MethodName)) ∈ lw_gd := tin 146 rfl
set_option maxRecDepth 100000 in
theorem q112 : (Jvm.Cond.code ({ cls := "ArenaNetwork$Tensor", name := "greatestLength", desc := "(I)I" } : Jvm.MethodName) prog_5_method_2_code (1 : Nat) (Option.some Jvm.ClassFile.FieldType.int)) ∈ lw_gd := tin 147 rfl
set_option maxRecDepth 100000 in
theorem q113 : (Jvm.Cond.methodLink "ArenaNetwork" (51 : Nat) ({ cls := "ArenaNetwork", name := "isCellValue", desc := "(I)Z" } : Jvm.MethodName)) ∈ lw_gd := tin 148 rfl
set_option maxRecDepth 100000 in
theorem q114 : (Jvm.Cond.static ({ cls := "ArenaNetwork", name := "isCellValue", desc := "(I)Z" } : Jvm.MethodName)) ∈ lw_gd := tin 149 rfl
set_option maxRecDepth 100000 in
theorem q115 : (Jvm.Cond.code ({ cls := "ArenaNetwork", name := "isCellValue", desc := "(I)Z" } : Jvm.MethodName) prog_1_method_26_code (1 : Nat) (Option.some Jvm.ClassFile.FieldType.boolean)) ∈ lw_gd := tin 150 rfl
set_option maxRecDepth 100000 in
theorem q116 : (Jvm.Cond.methodLink "ArenaNetwork" (55 : Nat) ({ cls := "java/util/ArrayList", name := "size", desc := "()I" } : Jvm.MethodName)) ∈ lw_gd := tin 151 rfl
set_option maxRecDepth 100000 in
theorem q117 : (Jvm.Cond.instanceMethod ({ cls := "java/util/ArrayList", name := "size", desc := "()I" } : Jvm.MethodName)) ∈ lw_gd := tin 152 rfl
set_option maxRecDepth 100000 in
theorem q118 : (Jvm.Cond.selects "java/util/ArrayList" ({ cls := "java/util/ArrayList", name := "size", desc := "()I" } : Jvm.MethodName) ({ cls := "java/util/ArrayList", name := "size", desc := "()I" } : Jvm.MethodName)) ∈ lw_gd := tin 153 rfl
set_option maxRecDepth 100000 in
theorem q119 : (Jvm.Cond.code ({ cls := "java/util/ArrayList", name := "size", desc := "()I" } : Jvm.MethodName) prog_15_method_8_code (1 : Nat) (Option.some Jvm.ClassFile.FieldType.int)) ∈ lw_gd := tin 154 rfl
set_option maxRecDepth 100000 in
theorem q120 : (Jvm.Cond.classLink "ArenaNetwork" (41 : Nat) "ArenaNetwork$Tensor") ∈ lw_gd := tin 155 rfl
set_option maxRecDepth 100000 in
theorem q121 : (Jvm.Cond.instantiable "ArenaNetwork$Tensor" (11 : Nat)) ∈ lw_gd := tin 156 rfl
set_option maxRecDepth 100000 in
theorem q122 : (Jvm.Cond.methodLink "ArenaNetwork" (59 : Nat) ({ cls := "ArenaNetwork$Tensor", name := "<init>", desc := "(IIII)V" } : Jvm.MethodName)) ∈ lw_gd := tin 157 rfl
set_option maxRecDepth 100000 in
theorem q123 : (Jvm.Cond.instanceMethod ({ cls := "ArenaNetwork$Tensor", name := "<init>", desc := "(IIII)V" } : Jvm.MethodName)) ∈ lw_gd := tin 158 rfl
set_option maxRecDepth 100000 in
theorem q124 : (Jvm.Cond.code ({ cls := "ArenaNetwork$Tensor", name := "<init>", desc := "(IIII)V" } : Jvm.MethodName) prog_5_method_1_code (5 : Nat) (Option.none : Option Jvm.ClassFile.FieldType)) ∈ lw_gd := tin 159 rfl
set_option maxRecDepth 100000 in
theorem q125 : (Jvm.Cond.methodLink "ArenaNetwork$Tensor" (1 : Nat) ({ cls := "java/lang/Object", name := "<init>", desc := "()V" } : Jvm.MethodName)) ∈ lw_gd := tin 160 rfl
set_option maxRecDepth 100000 in
theorem q126 : (Jvm.Cond.fieldLink "ArenaNetwork$Tensor" (26 : Nat) "ArenaNetwork$Tensor" "number" "I") ∈ lw_gd := tin 161 rfl
set_option maxRecDepth 100000 in
theorem q127 : (Jvm.Cond.fieldLink "ArenaNetwork" (141 : Nat) "ArenaNetwork$Tensor" "number" "I") ∈ lw_gd := tin 162 rfl
set_option maxRecDepth 100000 in
theorem q128 : (Jvm.Cond.fieldLink "ArenaNetwork$Tensor" (29 : Nat) "ArenaNetwork$Tensor" "kind" "I") ∈ lw_gd := tin 163 rfl
set_option maxRecDepth 100000 in
theorem q129 : (Jvm.Cond.fieldLink "ArenaNetwork$Operator" (28 : Nat) "ArenaNetwork$Tensor" "kind" "I") ∈ lw_gd := tin 164 rfl
set_option maxRecDepth 100000 in
theorem q130 : (Jvm.Cond.fieldLink "ArenaNetwork" (70 : Nat) "ArenaNetwork$Tensor" "kind" "I") ∈ lw_gd := tin 165 rfl
set_option maxRecDepth 100000 in
theorem q131 : (Jvm.Cond.fieldLink "ArenaNetwork$Tensor" (32 : Nat) "ArenaNetwork$Tensor" "length" "I") ∈ lw_gd := tin 166 rfl
set_option maxRecDepth 100000 in
theorem q132 : (Jvm.Cond.fieldLink "ArenaNetwork$Arena" (39 : Nat) "ArenaNetwork$Tensor" "length" "I") ∈ lw_gd := tin 167 rfl
set_option maxRecDepth 100000 in
theorem q133 : (Jvm.Cond.fieldLink "ArenaNetwork$Operator" (31 : Nat) "ArenaNetwork$Tensor" "length" "I") ∈ lw_gd := tin 168 rfl
set_option maxRecDepth 100000 in
theorem q134 : (Jvm.Cond.fieldLink "ArenaNetwork$Tensor" (35 : Nat) "ArenaNetwork$Tensor" "zero" "I") ∈ lw_gd := tin 169 rfl
set_option maxRecDepth 100000 in
theorem q135 : (Jvm.Cond.fieldLink "ArenaNetwork$Operator" (38 : Nat) "ArenaNetwork$Tensor" "zero" "I") ∈ lw_gd := tin 170 rfl
set_option maxRecDepth 100000 in
theorem q136 : (Jvm.Cond.fieldLink "ArenaNetwork$Tensor" (38 : Nat) "ArenaNetwork$Tensor" "given" "[I") ∈ lw_gd := tin 171 rfl
set_option maxRecDepth 100000 in
theorem q137 : (Jvm.Cond.fieldLink "ArenaNetwork" (76 : Nat) "ArenaNetwork$Tensor" "given" "[I") ∈ lw_gd := tin 172 rfl
set_option maxRecDepth 100000 in
theorem q138 : (Jvm.Cond.fieldLink "ArenaNetwork$Tensor" (42 : Nat) "ArenaNetwork$Tensor" "cells" "[I") ∈ lw_gd := tin 173 rfl
set_option maxRecDepth 100000 in
theorem q139 : (Jvm.Cond.fieldLink "ArenaNetwork$Operator" (41 : Nat) "ArenaNetwork$Tensor" "cells" "[I") ∈ lw_gd := tin 174 rfl
set_option maxRecDepth 100000 in
theorem q140 : (Jvm.Cond.fieldLink "ArenaNetwork" (123 : Nat) "ArenaNetwork$Tensor" "cells" "[I") ∈ lw_gd := tin 175 rfl
set_option maxRecDepth 100000 in
theorem q141 : (Jvm.Cond.fieldLink "ArenaNetwork$Tensor" (7 : Nat) "ArenaNetwork$Tensor" "kept" "Z") ∈ lw_gd := tin 176 rfl
set_option maxRecDepth 100000 in
theorem q142 : (Jvm.Cond.fieldLink "ArenaNetwork" (94 : Nat) "ArenaNetwork$Tensor" "kept" "Z") ∈ lw_gd := tin 177 rfl
set_option maxRecDepth 100000 in
theorem q143 : (Jvm.Cond.fieldLink "ArenaNetwork$Tensor" (13 : Nat) "ArenaNetwork$Tensor" "hasLife" "Z") ∈ lw_gd := tin 178 rfl
set_option maxRecDepth 100000 in
theorem q144 : (Jvm.Cond.fieldLink "ArenaNetwork$Arena" (35 : Nat) "ArenaNetwork$Tensor" "hasLife" "Z") ∈ lw_gd := tin 179 rfl
set_option maxRecDepth 100000 in
theorem q145 : (Jvm.Cond.fieldLink "ArenaNetwork" (153 : Nat) "ArenaNetwork$Tensor" "hasLife" "Z") ∈ lw_gd := tin 180 rfl
set_option maxRecDepth 100000 in
theorem q146 : (Jvm.Cond.fieldLink "ArenaNetwork$Tensor" (16 : Nat) "ArenaNetwork$Tensor" "begin" "I") ∈ lw_gd := tin 181 rfl
set_option maxRecDepth 100000 in
theorem q147 : (Jvm.Cond.fieldLink "ArenaNetwork" (135 : Nat) "ArenaNetwork$Tensor" "begin" "I") ∈ lw_gd := tin 182 rfl
set_option maxRecDepth 100000 in
theorem q148 : (Jvm.Cond.fieldLink "ArenaNetwork$Tensor" (20 : Nat) "ArenaNetwork$Tensor" "end" "I") ∈ lw_gd := tin 183 rfl
set_option maxRecDepth 100000 in
theorem q149 : (Jvm.Cond.fieldLink "ArenaNetwork" (132 : Nat) "ArenaNetwork$Tensor" "end" "I") ∈ lw_gd := tin 184 rfl
set_option maxRecDepth 100000 in
theorem q150 : (Jvm.Cond.fieldLink "ArenaNetwork$Tensor" (23 : Nat) "ArenaNetwork$Tensor" "place" "I") ∈ lw_gd := tin 185 rfl
set_option maxRecDepth 100000 in
theorem q151 : (Jvm.Cond.fieldLink "ArenaNetwork$Arena" (48 : Nat) "ArenaNetwork$Tensor" "place" "I") ∈ lw_gd := tin 186 rfl
set_option maxRecDepth 100000 in
theorem q152 : (Jvm.Cond.fieldLink "ArenaNetwork" (129 : Nat) "ArenaNetwork$Tensor" "place" "I") ∈ lw_gd := tin 187 rfl
set_option maxRecDepth 100000 in
theorem q176 : (Jvm.Cond.arrayClass Jvm.ClassFile.FieldType.int) ∈ lw_gd := tin 211 rfl
set_option maxRecDepth 100000 in
theorem q177 : (Jvm.Cond.methodLink "ArenaNetwork" (62 : Nat) ({ cls := "java/util/ArrayList", name := "add", desc := "(Ljava/lang/Object;)Z" } : Jvm.MethodName)) ∈ lw_gd := tin 212 rfl
set_option maxRecDepth 100000 in
theorem q178 : (Jvm.Cond.instanceMethod ({ cls := "java/util/ArrayList", name := "add", desc := "(Ljava/lang/Object;)Z" } : Jvm.MethodName)) ∈ lw_gd := tin 213 rfl
set_option maxRecDepth 100000 in
theorem q179 : (Jvm.Cond.selects "java/util/ArrayList" ({ cls := "java/util/ArrayList", name := "add", desc := "(Ljava/lang/Object;)Z" } : Jvm.MethodName) ({ cls := "java/util/ArrayList", name := "add", desc := "(Ljava/lang/Object;)Z" } : Jvm.MethodName)) ∈ lw_gd := tin 214 rfl
set_option maxRecDepth 100000 in
theorem q180 : (Jvm.Cond.code ({ cls := "java/util/ArrayList", name := "add", desc := "(Ljava/lang/Object;)Z" } : Jvm.MethodName) prog_15_method_25_code (2 : Nat) (Option.some Jvm.ClassFile.FieldType.boolean)) ∈ lw_gd := tin 215 rfl
set_option maxRecDepth 100000 in
theorem q181 : (Jvm.Cond.methodLink "java/util/ArrayList" (131 : Nat) ({ cls := "java/util/ArrayList", name := "add", desc := "(Ljava/lang/Object;[Ljava/lang/Object;I)V" } : Jvm.MethodName)) ∈ lw_gd := tin 216 rfl
set_option maxRecDepth 100000 in
theorem q183 : (Jvm.Cond.instanceMethod ({ cls := "java/util/ArrayList", name := "add", desc := "(Ljava/lang/Object;[Ljava/lang/Object;I)V" } : Jvm.MethodName)) ∈ lw_gd := tin 218 rfl
set_option maxRecDepth 100000 in
theorem q184 : (Jvm.Cond.code ({ cls := "java/util/ArrayList", name := "add", desc := "(Ljava/lang/Object;[Ljava/lang/Object;I)V" } : Jvm.MethodName) prog_15_method_24_code (4 : Nat) (Option.none : Option Jvm.ClassFile.FieldType)) ∈ lw_gd := tin 219 rfl
set_option maxRecDepth 100000 in
theorem q185 : (Jvm.Cond.methodLink "java/util/ArrayList" (129 : Nat) ({ cls := "java/util/ArrayList", name := "grow", desc := "()[Ljava/lang/Object;" } : Jvm.MethodName)) ∈ lw_gd := tin 220 rfl
set_option maxRecDepth 100000 in
theorem q187 : (Jvm.Cond.instanceMethod ({ cls := "java/util/ArrayList", name := "grow", desc := "()[Ljava/lang/Object;" } : Jvm.MethodName)) ∈ lw_gd := tin 222 rfl
set_option maxRecDepth 100000 in
theorem q188 : (Jvm.Cond.code ({ cls := "java/util/ArrayList", name := "grow", desc := "()[Ljava/lang/Object;" } : Jvm.MethodName) prog_15_method_7_code (1 : Nat) (Option.some (Jvm.ClassFile.FieldType.array (Jvm.ClassFile.FieldType.object "java/lang/Object")))) ∈ lw_gd := tin 223 rfl
set_option maxRecDepth 100000 in
theorem q189 : (Jvm.Cond.methodLink "java/util/ArrayList" (69 : Nat) ({ cls := "java/util/ArrayList", name := "grow", desc := "(I)[Ljava/lang/Object;" } : Jvm.MethodName)) ∈ lw_gd := tin 224 rfl
set_option maxRecDepth 100000 in
theorem q191 : (Jvm.Cond.instanceMethod ({ cls := "java/util/ArrayList", name := "grow", desc := "(I)[Ljava/lang/Object;" } : Jvm.MethodName)) ∈ lw_gd := tin 226 rfl
set_option maxRecDepth 100000 in
theorem q192 : (Jvm.Cond.code ({ cls := "java/util/ArrayList", name := "grow", desc := "(I)[Ljava/lang/Object;" } : Jvm.MethodName) prog_15_method_6_code (4 : Nat) (Option.some (Jvm.ClassFile.FieldType.array (Jvm.ClassFile.FieldType.object "java/lang/Object")))) ∈ lw_gd := tin 227 rfl
set_option maxRecDepth 100000 in
theorem q193 : (Jvm.Cond.methodLink "java/util/ArrayList" (73 : Nat) ({ cls := "jdk/internal/util/ArraysSupport", name := "newLength", desc := "(III)I" } : Jvm.MethodName)) ∈ lw_gd := tin 228 rfl
set_option maxRecDepth 100000 in
theorem q194 : (Jvm.Cond.static ({ cls := "jdk/internal/util/ArraysSupport", name := "newLength", desc := "(III)I" } : Jvm.MethodName)) ∈ lw_gd := tin 229 rfl
set_option maxRecDepth 100000 in
theorem q195 : (Jvm.Cond.code ({ cls := "jdk/internal/util/ArraysSupport", name := "newLength", desc := "(III)I" } : Jvm.MethodName) prog_22_method_27_code (4 : Nat) (Option.some Jvm.ClassFile.FieldType.int)) ∈ lw_gd := tin 230 rfl
set_option maxRecDepth 100000 in
theorem q196 : (Jvm.Cond.methodLink "jdk/internal/util/ArraysSupport" (194 : Nat) ({ cls := "java/lang/Math", name := "max", desc := "(II)I" } : Jvm.MethodName)) ∈ lw_gd := tin 231 rfl
set_option maxRecDepth 100000 in
theorem q197 : (Jvm.Cond.static ({ cls := "java/lang/Math", name := "max", desc := "(II)I" } : Jvm.MethodName)) ∈ lw_gd := tin 232 rfl
set_option maxRecDepth 100000 in
theorem q198 : (Jvm.Cond.code ({ cls := "java/lang/Math", name := "max", desc := "(II)I" } : Jvm.MethodName) prog_11_method_65_code (2 : Nat) (Option.some Jvm.ClassFile.FieldType.int)) ∈ lw_gd := tin 233 rfl
set_option maxRecDepth 100000 in
theorem q199 : (Jvm.Cond.constant "jdk/internal/util/ArraysSupport" (200 : Nat) (2147483639 : Int32)) ∈ lw_gd := tin 234 rfl
set_option maxRecDepth 100000 in
theorem q203 : (Jvm.Cond.methodLink "java/util/ArrayList" (66 : Nat) ({ cls := "java/util/Arrays", name := "copyOf", desc := "([Ljava/lang/Object;I)[Ljava/lang/Object;" } : Jvm.MethodName)) ∈ lw_gd := tin 238 rfl
set_option maxRecDepth 100000 in
theorem q204 : (Jvm.Cond.static ({ cls := "java/util/Arrays", name := "copyOf", desc := "([Ljava/lang/Object;I)[Ljava/lang/Object;" } : Jvm.MethodName)) ∈ lw_gd := tin 239 rfl
set_option maxRecDepth 100000 in
theorem q205 : (Jvm.Cond.code ({ cls := "java/util/Arrays", name := "copyOf", desc := "([Ljava/lang/Object;I)[Ljava/lang/Object;" } : Jvm.MethodName) prog_16_method_119_code (2 : Nat) (Option.some (Jvm.ClassFile.FieldType.array (Jvm.ClassFile.FieldType.object "java/lang/Object")))) ∈ lw_gd := tin 240 rfl
set_option maxRecDepth 100000 in
theorem q206 : (Jvm.Cond.methodLink "java/util/Arrays" (86 : Nat) ({ cls := "java/lang/Object", name := "getClass", desc := "()Ljava/lang/Class;" } : Jvm.MethodName)) ∈ lw_gd := tin 241 rfl
set_option maxRecDepth 100000 in
theorem q207 : (Jvm.Cond.instanceMethod ({ cls := "java/lang/Object", name := "getClass", desc := "()Ljava/lang/Class;" } : Jvm.MethodName)) ∈ lw_gd := tin 242 rfl
set_option maxRecDepth 100000 in
theorem q216 : (Jvm.Cond.native ({ cls := "java/lang/Object", name := "getClass", desc := "()Ljava/lang/Class;" } : Jvm.MethodName)) ∈ lw_gd := tin 251 rfl
set_option maxRecDepth 100000 in
theorem q217 : (Jvm.Cond.methodLink "java/util/Arrays" (300 : Nat) ({ cls := "java/util/Arrays", name := "copyOf", desc := "([Ljava/lang/Object;ILjava/lang/Class;)[Ljava/lang/Object;" } : Jvm.MethodName)) ∈ lw_gd := tin 252 rfl
set_option maxRecDepth 100000 in
theorem q218 : (Jvm.Cond.static ({ cls := "java/util/Arrays", name := "copyOf", desc := "([Ljava/lang/Object;ILjava/lang/Class;)[Ljava/lang/Object;" } : Jvm.MethodName)) ∈ lw_gd := tin 253 rfl
set_option maxRecDepth 100000 in
theorem q219 : (Jvm.Cond.code ({ cls := "java/util/Arrays", name := "copyOf", desc := "([Ljava/lang/Object;ILjava/lang/Class;)[Ljava/lang/Object;" } : Jvm.MethodName) prog_16_method_120_code (4 : Nat) (Option.some (Jvm.ClassFile.FieldType.array (Jvm.ClassFile.FieldType.object "java/lang/Object")))) ∈ lw_gd := tin 254 rfl
set_option maxRecDepth 100000 in
theorem q220 : (Jvm.Cond.classLink "java/util/Arrays" (110 : Nat) "[Ljava/lang/Object;") ∈ lw_gd := tin 255 rfl
set_option maxRecDepth 100000 in
theorem q222 : (Jvm.Cond.classLink "java/util/Arrays" (2 : Nat) "java/lang/Object") ∈ lw_gd := tin 257 rfl
set_option maxRecDepth 100000 in
theorem q223 : (Jvm.Cond.methodLink "java/util/Arrays" (304 : Nat) ({ cls := "java/lang/Math", name := "min", desc := "(II)I" } : Jvm.MethodName)) ∈ lw_gd := tin 258 rfl
set_option maxRecDepth 100000 in
theorem q224 : (Jvm.Cond.static ({ cls := "java/lang/Math", name := "min", desc := "(II)I" } : Jvm.MethodName)) ∈ lw_gd := tin 259 rfl
set_option maxRecDepth 100000 in
theorem q225 : (Jvm.Cond.code ({ cls := "java/lang/Math", name := "min", desc := "(II)I" } : Jvm.MethodName) prog_11_method_69_code (2 : Nat) (Option.some Jvm.ClassFile.FieldType.int)) ∈ lw_gd := tin 260 rfl
set_option maxRecDepth 100000 in
theorem q226 : (Jvm.Cond.methodLink "java/util/Arrays" (150 : Nat) ({ cls := "java/lang/System", name := "arraycopy", desc := "(Ljava/lang/Object;ILjava/lang/Object;II)V" } : Jvm.MethodName)) ∈ lw_gd := tin 261 rfl
set_option maxRecDepth 100000 in
theorem q227 : (Jvm.Cond.static ({ cls := "java/lang/System", name := "arraycopy", desc := "(Ljava/lang/Object;ILjava/lang/Object;II)V" } : Jvm.MethodName)) ∈ lw_gd := tin 262 rfl
set_option maxRecDepth 100000 in
theorem q228 : (Jvm.Cond.native ({ cls := "java/lang/System", name := "arraycopy", desc := "(Ljava/lang/Object;ILjava/lang/Object;II)V" } : Jvm.MethodName)) ∈ lw_gd := tin 263 rfl
set_option maxRecDepth 100000 in
theorem q229 : (Jvm.Cond.methodLink "java/util/ArrayList" (79 : Nat) ({ cls := "java/lang/Math", name := "max", desc := "(II)I" } : Jvm.MethodName)) ∈ lw_gd := tin 264 rfl
set_option maxRecDepth 100000 in
theorem q230 : (Jvm.Cond.classLink "java/util/ArrayList" (7 : Nat) "java/lang/Object") ∈ lw_gd := tin 265 rfl
set_option maxRecDepth 100000 in
theorem q231 : (Jvm.Cond.methodLink "ArenaNetworkLaw" (18 : Nat) ({ cls := "ArenaNetwork", name := "set", desc := "(III)I" } : Jvm.MethodName)) ∈ lw_gd := tin 266 rfl
set_option maxRecDepth 100000 in
theorem q232 : (Jvm.Cond.instanceMethod ({ cls := "ArenaNetwork", name := "set", desc := "(III)I" } : Jvm.MethodName)) ∈ lw_gd := tin 267 rfl
set_option maxRecDepth 100000 in
theorem q233 : (Jvm.Cond.selects "ArenaNetwork" ({ cls := "ArenaNetwork", name := "set", desc := "(III)I" } : Jvm.MethodName) ({ cls := "ArenaNetwork", name := "set", desc := "(III)I" } : Jvm.MethodName)) ∈ lw_gd := tin 268 rfl
set_option maxRecDepth 100000 in
theorem q234 : (Jvm.Cond.code ({ cls := "ArenaNetwork", name := "set", desc := "(III)I" } : Jvm.MethodName) prog_1_method_3_code (5 : Nat) (Option.some Jvm.ClassFile.FieldType.int)) ∈ lw_gd := tin 269 rfl
set_option maxRecDepth 100000 in
theorem q235 : (Jvm.Cond.methodLink "ArenaNetwork" (66 : Nat) ({ cls := "ArenaNetwork", name := "tensorAt", desc := "(I)LArenaNetwork$Tensor;" } : Jvm.MethodName)) ∈ lw_gd := tin 270 rfl
set_option maxRecDepth 100000 in
theorem q237 : (Jvm.Cond.instanceMethod ({ cls := "ArenaNetwork", name := "tensorAt", desc := "(I)LArenaNetwork$Tensor;" } : Jvm.MethodName)) ∈ lw_gd := tin 272 rfl
set_option maxRecDepth 100000 in
theorem q238 : (Jvm.Cond.code ({ cls := "ArenaNetwork", name := "tensorAt", desc := "(I)LArenaNetwork$Tensor;" } : Jvm.MethodName) prog_1_method_18_code (2 : Nat) (Option.some (Jvm.ClassFile.FieldType.object "ArenaNetwork$Tensor"))) ∈ lw_gd := tin 273 rfl
set_option maxRecDepth 100000 in
theorem q239 : (Jvm.Cond.methodLink "ArenaNetwork" (110 : Nat) ({ cls := "java/util/ArrayList", name := "get", desc := "(I)Ljava/lang/Object;" } : Jvm.MethodName)) ∈ lw_gd := tin 274 rfl
set_option maxRecDepth 100000 in
theorem q240 : (Jvm.Cond.instanceMethod ({ cls := "java/util/ArrayList", name := "get", desc := "(I)Ljava/lang/Object;" } : Jvm.MethodName)) ∈ lw_gd := tin 275 rfl
set_option maxRecDepth 100000 in
theorem q241 : (Jvm.Cond.selects "java/util/ArrayList" ({ cls := "java/util/ArrayList", name := "get", desc := "(I)Ljava/lang/Object;" } : Jvm.MethodName) ({ cls := "java/util/ArrayList", name := "get", desc := "(I)Ljava/lang/Object;" } : Jvm.MethodName)) ∈ lw_gd := tin 276 rfl
set_option maxRecDepth 100000 in
theorem q242 : (Jvm.Cond.code ({ cls := "java/util/ArrayList", name := "get", desc := "(I)Ljava/lang/Object;" } : Jvm.MethodName) prog_15_method_20_code (2 : Nat) (Option.some (Jvm.ClassFile.FieldType.object "java/lang/Object"))) ∈ lw_gd := tin 277 rfl
set_option maxRecDepth 100000 in
theorem q243 : (Jvm.Cond.methodLink "java/util/ArrayList" (118 : Nat) ({ cls := "java/util/Objects", name := "checkIndex", desc := "(II)I" } : Jvm.MethodName)) ∈ lw_gd := tin 278 rfl
set_option maxRecDepth 100000 in
theorem q244 : (Jvm.Cond.static ({ cls := "java/util/Objects", name := "checkIndex", desc := "(II)I" } : Jvm.MethodName)) ∈ lw_gd := tin 279 rfl
set_option maxRecDepth 100000 in
theorem q245 : (Jvm.Cond.code ({ cls := "java/util/Objects", name := "checkIndex", desc := "(II)I" } : Jvm.MethodName) prog_19_method_17_code (2 : Nat) (Option.some Jvm.ClassFile.FieldType.int)) ∈ lw_gd := tin 280 rfl
set_option maxRecDepth 100000 in
theorem q246 : (Jvm.Cond.methodLink "java/util/Objects" (105 : Nat) ({ cls := "jdk/internal/util/Preconditions", name := "checkIndex", desc := "(IILjava/util/function/BiFunction;)I" } : Jvm.MethodName)) ∈ lw_gd := tin 281 rfl
set_option maxRecDepth 100000 in
theorem q247 : (Jvm.Cond.static ({ cls := "jdk/internal/util/Preconditions", name := "checkIndex", desc := "(IILjava/util/function/BiFunction;)I" } : Jvm.MethodName)) ∈ lw_gd := tin 282 rfl
set_option maxRecDepth 100000 in
theorem q248 : (Jvm.Cond.code ({ cls := "jdk/internal/util/Preconditions", name := "checkIndex", desc := "(IILjava/util/function/BiFunction;)I" } : Jvm.MethodName) prog_23_method_11_code (3 : Nat) (Option.some Jvm.ClassFile.FieldType.int)) ∈ lw_gd := tin 283 rfl
set_option maxRecDepth 100000 in
theorem q249 : (Jvm.Cond.methodLink "java/util/ArrayList" (123 : Nat) ({ cls := "java/util/ArrayList", name := "elementData", desc := "(I)Ljava/lang/Object;" } : Jvm.MethodName)) ∈ lw_gd := tin 284 rfl
set_option maxRecDepth 100000 in
theorem q250 : (Jvm.Cond.instanceMethod ({ cls := "java/util/ArrayList", name := "elementData", desc := "(I)Ljava/lang/Object;" } : Jvm.MethodName)) ∈ lw_gd := tin 285 rfl
set_option maxRecDepth 100000 in
theorem q251 : (Jvm.Cond.selects "java/util/ArrayList" ({ cls := "java/util/ArrayList", name := "elementData", desc := "(I)Ljava/lang/Object;" } : Jvm.MethodName) ({ cls := "java/util/ArrayList", name := "elementData", desc := "(I)Ljava/lang/Object;" } : Jvm.MethodName)) ∈ lw_gd := tin 286 rfl
set_option maxRecDepth 100000 in
theorem q252 : (Jvm.Cond.code ({ cls := "java/util/ArrayList", name := "elementData", desc := "(I)Ljava/lang/Object;" } : Jvm.MethodName) prog_15_method_18_code (2 : Nat) (Option.some (Jvm.ClassFile.FieldType.object "java/lang/Object"))) ∈ lw_gd := tin 287 rfl
set_option maxRecDepth 100000 in
theorem q253 : (Jvm.Cond.methodLink "ArenaNetwork" (73 : Nat) ({ cls := "ArenaNetwork$Tensor", name := "hasCell", desc := "(I)Z" } : Jvm.MethodName)) ∈ lw_gd := tin 288 rfl
set_option maxRecDepth 100000 in
theorem q254 : (Jvm.Cond.instanceMethod ({ cls := "ArenaNetwork$Tensor", name := "hasCell", desc := "(I)Z" } : Jvm.MethodName)) ∈ lw_gd := tin 289 rfl
set_option maxRecDepth 100000 in
theorem q255 : (Jvm.Cond.selects "ArenaNetwork$Tensor" ({ cls := "ArenaNetwork$Tensor", name := "hasCell", desc := "(I)Z" } : Jvm.MethodName) ({ cls := "ArenaNetwork$Tensor", name := "hasCell", desc := "(I)Z" } : Jvm.MethodName)) ∈ lw_gd := tin 290 rfl
set_option maxRecDepth 100000 in
theorem q256 : (Jvm.Cond.code ({ cls := "ArenaNetwork$Tensor", name := "hasCell", desc := "(I)Z" } : Jvm.MethodName) prog_5_method_3_code (2 : Nat) (Option.some Jvm.ClassFile.FieldType.boolean)) ∈ lw_gd := tin 291 rfl
set_option maxRecDepth 100000 in
theorem q257 : (Jvm.Cond.methodLink "ArenaNetworkLaw" (22 : Nat) ({ cls := "ArenaNetwork", name := "scale", desc := "(III)I" } : Jvm.MethodName)) ∈ lw_gd := tin 292 rfl
set_option maxRecDepth 100000 in
theorem q258 : (Jvm.Cond.instanceMethod ({ cls := "ArenaNetwork", name := "scale", desc := "(III)I" } : Jvm.MethodName)) ∈ lw_gd := tin 293 rfl
set_option maxRecDepth 100000 in
theorem q259 : (Jvm.Cond.selects "ArenaNetwork" ({ cls := "ArenaNetwork", name := "scale", desc := "(III)I" } : Jvm.MethodName) ({ cls := "ArenaNetwork", name := "scale", desc := "(III)I" } : Jvm.MethodName)) ∈ lw_gd := tin 294 rfl
set_option maxRecDepth 100000 in
theorem q260 : (Jvm.Cond.code ({ cls := "ArenaNetwork", name := "scale", desc := "(III)I" } : Jvm.MethodName) prog_1_method_4_code (4 : Nat) (Option.some Jvm.ClassFile.FieldType.int)) ∈ lw_gd := tin 295 rfl
set_option maxRecDepth 100000 in
theorem q261 : (Jvm.Cond.methodLink "ArenaNetwork" (80 : Nat) ({ cls := "ArenaNetwork", name := "isScale", desc := "(I)Z" } : Jvm.MethodName)) ∈ lw_gd := tin 296 rfl
set_option maxRecDepth 100000 in
theorem q262 : (Jvm.Cond.static ({ cls := "ArenaNetwork", name := "isScale", desc := "(I)Z" } : Jvm.MethodName)) ∈ lw_gd := tin 297 rfl
set_option maxRecDepth 100000 in
theorem q263 : (Jvm.Cond.code ({ cls := "ArenaNetwork", name := "isScale", desc := "(I)Z" } : Jvm.MethodName) prog_1_method_25_code (1 : Nat) (Option.some Jvm.ClassFile.FieldType.boolean)) ∈ lw_gd := tin 298 rfl
set_option maxRecDepth 100000 in
theorem q264 : (Jvm.Cond.methodLink "ArenaNetworkLaw" (26 : Nat) ({ cls := "ArenaNetwork", name := "operator", desc := "(IIIII)I" } : Jvm.MethodName)) ∈ lw_gd := tin 299 rfl
set_option maxRecDepth 100000 in
theorem q265 : (Jvm.Cond.instanceMethod ({ cls := "ArenaNetwork", name := "operator", desc := "(IIIII)I" } : Jvm.MethodName)) ∈ lw_gd := tin 300 rfl
set_option maxRecDepth 100000 in
theorem q266 : (Jvm.Cond.selects "ArenaNetwork" ({ cls := "ArenaNetwork", name := "operator", desc := "(IIIII)I" } : Jvm.MethodName) ({ cls := "ArenaNetwork", name := "operator", desc := "(IIIII)I" } : Jvm.MethodName)) ∈ lw_gd := tin 301 rfl
set_option maxRecDepth 100000 in
theorem q267 : (Jvm.Cond.code ({ cls := "ArenaNetwork", name := "operator", desc := "(IIIII)I" } : Jvm.MethodName) prog_1_method_5_code (9 : Nat) (Option.some Jvm.ClassFile.FieldType.int)) ∈ lw_gd := tin 302 rfl
set_option maxRecDepth 100000 in
theorem q268 : (Jvm.Cond.classLink "ArenaNetwork" (89 : Nat) "ArenaNetwork$Operator") ∈ lw_gd := tin 303 rfl
set_option maxRecDepth 100000 in
theorem q269 : (Jvm.Cond.instantiable "ArenaNetwork$Operator" (5 : Nat)) ∈ lw_gd := tin 304 rfl
set_option maxRecDepth 100000 in
theorem q270 : (Jvm.Cond.methodLink "ArenaNetwork" (91 : Nat) ({ cls := "ArenaNetwork$Operator", name := "<init>", desc := "(ILArenaNetwork$Tensor;LArenaNetwork$Tensor;LArenaNetwork$Tensor;I)V" } : Jvm.MethodName)) ∈ lw_gd := tin 305 rfl
set_option maxRecDepth 100000 in
theorem q271 : (Jvm.Cond.instanceMethod ({ cls := "ArenaNetwork$Operator", name := "<init>", desc := "(ILArenaNetwork$Tensor;LArenaNetwork$Tensor;LArenaNetwork$Tensor;I)V" } : Jvm.MethodName)) ∈ lw_gd := tin 306 rfl
set_option maxRecDepth 100000 in
theorem q272 : (Jvm.Cond.code ({ cls := "ArenaNetwork$Operator", name := "<init>", desc := "(ILArenaNetwork$Tensor;LArenaNetwork$Tensor;LArenaNetwork$Tensor;I)V" } : Jvm.MethodName) prog_3_method_1_code (6 : Nat) (Option.none : Option Jvm.ClassFile.FieldType)) ∈ lw_gd := tin 307 rfl
set_option maxRecDepth 100000 in
theorem q273 : (Jvm.Cond.methodLink "ArenaNetwork$Operator" (3 : Nat) ({ cls := "java/lang/Object", name := "<init>", desc := "()V" } : Jvm.MethodName)) ∈ lw_gd := tin 308 rfl
set_option maxRecDepth 100000 in
theorem q274 : (Jvm.Cond.fieldLink "ArenaNetwork$Operator" (9 : Nat) "ArenaNetwork$Operator" "kind" "I") ∈ lw_gd := tin 309 rfl
set_option maxRecDepth 100000 in
theorem q275 : (Jvm.Cond.fieldLink "ArenaNetwork$Operator" (15 : Nat) "ArenaNetwork$Operator" "a" "LArenaNetwork$Tensor;") ∈ lw_gd := tin 310 rfl
set_option maxRecDepth 100000 in
theorem q276 : (Jvm.Cond.fieldLink "ArenaNetwork" (167 : Nat) "ArenaNetwork$Operator" "a" "LArenaNetwork$Tensor;") ∈ lw_gd := tin 311 rfl
set_option maxRecDepth 100000 in
theorem q277 : (Jvm.Cond.fieldLink "ArenaNetwork$Operator" (19 : Nat) "ArenaNetwork$Operator" "b" "LArenaNetwork$Tensor;") ∈ lw_gd := tin 312 rfl
set_option maxRecDepth 100000 in
theorem q278 : (Jvm.Cond.fieldLink "ArenaNetwork" (170 : Nat) "ArenaNetwork$Operator" "b" "LArenaNetwork$Tensor;") ∈ lw_gd := tin 313 rfl
set_option maxRecDepth 100000 in
theorem q279 : (Jvm.Cond.fieldLink "ArenaNetwork$Operator" (22 : Nat) "ArenaNetwork$Operator" "\x72" "LArenaNetwork$Tensor;") ∈ lw_gd := tin 314 rfl
set_option maxRecDepth 100000 in
theorem q280 : (Jvm.Cond.fieldLink "ArenaNetwork" (163 : Nat) "ArenaNetwork$Operator" "\x72" "LArenaNetwork$Tensor;") ∈ lw_gd := tin 315 rfl
set_option maxRecDepth 100000 in
theorem q281 : (Jvm.Cond.fieldLink "ArenaNetwork$Operator" (25 : Nat) "ArenaNetwork$Operator" "p" "I") ∈ lw_gd := tin 316 rfl
set_option maxRecDepth 100000 in
theorem q282 : (Jvm.Cond.fieldLink "ArenaNetwork" (184 : Nat) "ArenaNetwork$Operator" "p" "I") ∈ lw_gd := tin 317 rfl
set_option maxRecDepth 100000 in
theorem q294 : (Jvm.Cond.methodLink "ArenaNetworkLaw" (31 : Nat) ({ cls := "ArenaNetwork", name := "keep", desc := "(IZ)I" } : Jvm.MethodName)) ∈ lw_gd := tin 329 rfl
set_option maxRecDepth 100000 in
theorem q295 : (Jvm.Cond.instanceMethod ({ cls := "ArenaNetwork", name := "keep", desc := "(IZ)I" } : Jvm.MethodName)) ∈ lw_gd := tin 330 rfl
set_option maxRecDepth 100000 in
theorem q296 : (Jvm.Cond.selects "ArenaNetwork" ({ cls := "ArenaNetwork", name := "keep", desc := "(IZ)I" } : Jvm.MethodName) ({ cls := "ArenaNetwork", name := "keep", desc := "(IZ)I" } : Jvm.MethodName)) ∈ lw_gd := tin 331 rfl
set_option maxRecDepth 100000 in
theorem q297 : (Jvm.Cond.code ({ cls := "ArenaNetwork", name := "keep", desc := "(IZ)I" } : Jvm.MethodName) prog_1_method_6_code (4 : Nat) (Option.some Jvm.ClassFile.FieldType.int)) ∈ lw_gd := tin 332 rfl
set_option maxRecDepth 100000 in
theorem q298 : (Jvm.Cond.methodLink "ArenaNetworkLaw" (36 : Nat) ({ cls := "ArenaNetwork", name := "prepare", desc := "()I" } : Jvm.MethodName)) ∈ lw_gd := tin 333 rfl
set_option maxRecDepth 100000 in
theorem q299 : (Jvm.Cond.instanceMethod ({ cls := "ArenaNetwork", name := "prepare", desc := "()I" } : Jvm.MethodName)) ∈ lw_gd := tin 334 rfl
set_option maxRecDepth 100000 in
theorem q300 : (Jvm.Cond.selects "ArenaNetwork" ({ cls := "ArenaNetwork", name := "prepare", desc := "()I" } : Jvm.MethodName) ({ cls := "ArenaNetwork", name := "prepare", desc := "()I" } : Jvm.MethodName)) ∈ lw_gd := tin 335 rfl
set_option maxRecDepth 100000 in
theorem q301 : (Jvm.Cond.code ({ cls := "ArenaNetwork", name := "prepare", desc := "()I" } : Jvm.MethodName) prog_1_method_7_code (2 : Nat) (Option.some Jvm.ClassFile.FieldType.int)) ∈ lw_gd := tin 336 rfl
set_option maxRecDepth 100000 in
theorem q302 : (Jvm.Cond.methodLink "ArenaNetwork" (97 : Nat) ({ cls := "ArenaNetwork", name := "firstFault", desc := "()I" } : Jvm.MethodName)) ∈ lw_gd := tin 337 rfl
set_option maxRecDepth 100000 in
theorem q304 : (Jvm.Cond.instanceMethod ({ cls := "ArenaNetwork", name := "firstFault", desc := "()I" } : Jvm.MethodName)) ∈ lw_gd := tin 339 rfl
set_option maxRecDepth 100000 in
theorem q305 : (Jvm.Cond.code ({ cls := "ArenaNetwork", name := "firstFault", desc := "()I" } : Jvm.MethodName) prog_1_method_20_code (3 : Nat) (Option.some Jvm.ClassFile.FieldType.int)) ∈ lw_gd := tin 340 rfl
set_option maxRecDepth 100000 in
theorem q306 : (Jvm.Cond.methodLink "ArenaNetwork" (156 : Nat) ({ cls := "ArenaNetwork", name := "faultOf", desc := "(I)I" } : Jvm.MethodName)) ∈ lw_gd := tin 341 rfl
set_option maxRecDepth 100000 in
theorem q308 : (Jvm.Cond.instanceMethod ({ cls := "ArenaNetwork", name := "faultOf", desc := "(I)I" } : Jvm.MethodName)) ∈ lw_gd := tin 343 rfl
set_option maxRecDepth 100000 in
theorem q309 : (Jvm.Cond.code ({ cls := "ArenaNetwork", name := "faultOf", desc := "(I)I" } : Jvm.MethodName) prog_1_method_21_code (3 : Nat) (Option.some Jvm.ClassFile.FieldType.int)) ∈ lw_gd := tin 344 rfl
set_option maxRecDepth 100000 in
theorem q310 : (Jvm.Cond.methodLink "ArenaNetwork" (159 : Nat) ({ cls := "ArenaNetwork", name := "isUnmadeBefore", desc := "(ILArenaNetwork$Tensor;)Z" } : Jvm.MethodName)) ∈ lw_gd := tin 345 rfl
set_option maxRecDepth 100000 in
theorem q312 : (Jvm.Cond.instanceMethod ({ cls := "ArenaNetwork", name := "isUnmadeBefore", desc := "(ILArenaNetwork$Tensor;)Z" } : Jvm.MethodName)) ∈ lw_gd := tin 347 rfl
set_option maxRecDepth 100000 in
theorem q313 : (Jvm.Cond.code ({ cls := "ArenaNetwork", name := "isUnmadeBefore", desc := "(ILArenaNetwork$Tensor;)Z" } : Jvm.MethodName) prog_1_method_22_code (4 : Nat) (Option.some Jvm.ClassFile.FieldType.boolean)) ∈ lw_gd := tin 348 rfl
set_option maxRecDepth 100000 in
theorem q314 : (Jvm.Cond.methodLink "ArenaNetwork" (173 : Nat) ({ cls := "ArenaNetwork$Operator", name := "fits", desc := "()Z" } : Jvm.MethodName)) ∈ lw_gd := tin 349 rfl
set_option maxRecDepth 100000 in
theorem q315 : (Jvm.Cond.instanceMethod ({ cls := "ArenaNetwork$Operator", name := "fits", desc := "()Z" } : Jvm.MethodName)) ∈ lw_gd := tin 350 rfl
set_option maxRecDepth 100000 in
theorem q316 : (Jvm.Cond.selects "ArenaNetwork$Operator" ({ cls := "ArenaNetwork$Operator", name := "fits", desc := "()Z" } : Jvm.MethodName) ({ cls := "ArenaNetwork$Operator", name := "fits", desc := "()Z" } : Jvm.MethodName)) ∈ lw_gd := tin 351 rfl
set_option maxRecDepth 100000 in
theorem q317 : (Jvm.Cond.code ({ cls := "ArenaNetwork$Operator", name := "fits", desc := "()Z" } : Jvm.MethodName) prog_3_method_2_code (1 : Nat) (Option.some Jvm.ClassFile.FieldType.boolean)) ∈ lw_gd := tin 352 rfl
set_option maxRecDepth 100000 in
theorem q319 : (Jvm.Cond.methodLink "ArenaNetwork" (100 : Nat) ({ cls := "ArenaNetwork", name := "giveLives", desc := "()V" } : Jvm.MethodName)) ∈ lw_gd := tin 354 rfl
set_option maxRecDepth 100000 in
theorem q321 : (Jvm.Cond.instanceMethod ({ cls := "ArenaNetwork", name := "giveLives", desc := "()V" } : Jvm.MethodName)) ∈ lw_gd := tin 356 rfl
set_option maxRecDepth 100000 in
theorem q322 : (Jvm.Cond.code ({ cls := "ArenaNetwork", name := "giveLives", desc := "()V" } : Jvm.MethodName) prog_1_method_23_code (3 : Nat) (Option.none : Option Jvm.ClassFile.FieldType)) ∈ lw_gd := tin 357 rfl
set_option maxRecDepth 100000 in
theorem q323 : (Jvm.Cond.methodLink "ArenaNetwork" (177 : Nat) ({ cls := "ArenaNetwork$Tensor", name := "resetLife", desc := "()V" } : Jvm.MethodName)) ∈ lw_gd := tin 358 rfl
set_option maxRecDepth 100000 in
theorem q324 : (Jvm.Cond.instanceMethod ({ cls := "ArenaNetwork$Tensor", name := "resetLife", desc := "()V" } : Jvm.MethodName)) ∈ lw_gd := tin 359 rfl
set_option maxRecDepth 100000 in
theorem q325 : (Jvm.Cond.selects "ArenaNetwork$Tensor" ({ cls := "ArenaNetwork$Tensor", name := "resetLife", desc := "()V" } : Jvm.MethodName) ({ cls := "ArenaNetwork$Tensor", name := "resetLife", desc := "()V" } : Jvm.MethodName)) ∈ lw_gd := tin 360 rfl
set_option maxRecDepth 100000 in
theorem q326 : (Jvm.Cond.code ({ cls := "ArenaNetwork$Tensor", name := "resetLife", desc := "()V" } : Jvm.MethodName) prog_5_method_5_code (1 : Nat) (Option.none : Option Jvm.ClassFile.FieldType)) ∈ lw_gd := tin 361 rfl
set_option maxRecDepth 100000 in
theorem q327 : (Jvm.Cond.methodLink "ArenaNetwork$Tensor" (51 : Nat) ({ cls := "ArenaNetwork$Tensor", name := "beginLife", desc := "(I)V" } : Jvm.MethodName)) ∈ lw_gd := tin 362 rfl
set_option maxRecDepth 100000 in
theorem q328 : (Jvm.Cond.instanceMethod ({ cls := "ArenaNetwork$Tensor", name := "beginLife", desc := "(I)V" } : Jvm.MethodName)) ∈ lw_gd := tin 363 rfl
set_option maxRecDepth 100000 in
theorem q329 : (Jvm.Cond.selects "ArenaNetwork$Tensor" ({ cls := "ArenaNetwork$Tensor", name := "beginLife", desc := "(I)V" } : Jvm.MethodName) ({ cls := "ArenaNetwork$Tensor", name := "beginLife", desc := "(I)V" } : Jvm.MethodName)) ∈ lw_gd := tin 364 rfl
set_option maxRecDepth 100000 in
theorem q330 : (Jvm.Cond.code ({ cls := "ArenaNetwork$Tensor", name := "beginLife", desc := "(I)V" } : Jvm.MethodName) prog_5_method_6_code (2 : Nat) (Option.none : Option Jvm.ClassFile.FieldType)) ∈ lw_gd := tin 365 rfl
set_option maxRecDepth 100000 in
theorem q331 : (Jvm.Cond.methodLink "ArenaNetwork" (180 : Nat) ({ cls := "ArenaNetwork$Tensor", name := "beginLife", desc := "(I)V" } : Jvm.MethodName)) ∈ lw_gd := tin 366 rfl
set_option maxRecDepth 100000 in
theorem q332 : (Jvm.Cond.methodLink "ArenaNetwork" (103 : Nat) ({ cls := "ArenaNetwork$Arena", name := "layOut", desc := "(Ljava/util/ArrayList;)V" } : Jvm.MethodName)) ∈ lw_gd := tin 367 rfl
set_option maxRecDepth 100000 in
theorem q333 : (Jvm.Cond.instanceMethod ({ cls := "ArenaNetwork$Arena", name := "layOut", desc := "(Ljava/util/ArrayList;)V" } : Jvm.MethodName)) ∈ lw_gd := tin 368 rfl
set_option maxRecDepth 100000 in
theorem q334 : (Jvm.Cond.selects "ArenaNetwork$Arena" ({ cls := "ArenaNetwork$Arena", name := "layOut", desc := "(Ljava/util/ArrayList;)V" } : Jvm.MethodName) ({ cls := "ArenaNetwork$Arena", name := "layOut", desc := "(Ljava/util/ArrayList;)V" } : Jvm.MethodName)) ∈ lw_gd := tin 369 rfl
set_option maxRecDepth 100000 in
theorem q335 : (Jvm.Cond.code ({ cls := "ArenaNetwork$Arena", name := "layOut", desc := "(Ljava/util/ArrayList;)V" } : Jvm.MethodName) prog_2_method_2_code (5 : Nat) (Option.none : Option Jvm.ClassFile.FieldType)) ∈ lw_gd := tin 370 rfl
set_option maxRecDepth 100000 in
theorem q336 : (Jvm.Cond.methodLink "ArenaNetwork$Arena" (24 : Nat) ({ cls := "java/util/ArrayList", name := "clear", desc := "()V" } : Jvm.MethodName)) ∈ lw_gd := tin 371 rfl
set_option maxRecDepth 100000 in
theorem q337 : (Jvm.Cond.instanceMethod ({ cls := "java/util/ArrayList", name := "clear", desc := "()V" } : Jvm.MethodName)) ∈ lw_gd := tin 372 rfl
set_option maxRecDepth 100000 in
theorem q338 : (Jvm.Cond.selects "java/util/ArrayList" ({ cls := "java/util/ArrayList", name := "clear", desc := "()V" } : Jvm.MethodName) ({ cls := "java/util/ArrayList", name := "clear", desc := "()V" } : Jvm.MethodName)) ∈ lw_gd := tin 373 rfl
set_option maxRecDepth 100000 in
theorem q339 : (Jvm.Cond.code ({ cls := "java/util/ArrayList", name := "clear", desc := "()V" } : Jvm.MethodName) prog_15_method_40_code (4 : Nat) (Option.none : Option Jvm.ClassFile.FieldType)) ∈ lw_gd := tin 374 rfl
set_option maxRecDepth 100000 in
theorem q340 : (Jvm.Cond.methodLink "ArenaNetwork$Arena" (27 : Nat) ({ cls := "java/util/ArrayList", name := "size", desc := "()I" } : Jvm.MethodName)) ∈ lw_gd := tin 375 rfl
set_option maxRecDepth 100000 in
theorem q341 : (Jvm.Cond.methodLink "ArenaNetwork$Arena" (31 : Nat) ({ cls := "java/util/ArrayList", name := "get", desc := "(I)Ljava/lang/Object;" } : Jvm.MethodName)) ∈ lw_gd := tin 376 rfl
set_option maxRecDepth 100000 in
theorem q342 : (Jvm.Cond.classLink "ArenaNetwork$Arena" (1 : Nat) "ArenaNetwork$Tensor") ∈ lw_gd := tin 377 rfl
set_option maxRecDepth 100000 in
theorem q343 : (Jvm.Cond.methodLink "ArenaNetwork$Arena" (40 : Nat) ({ cls := "ArenaNetwork$Arena", name := "put", desc := "(LArenaNetwork$Tensor;)V" } : Jvm.MethodName)) ∈ lw_gd := tin 378 rfl
set_option maxRecDepth 100000 in
theorem q345 : (Jvm.Cond.instanceMethod ({ cls := "ArenaNetwork$Arena", name := "put", desc := "(LArenaNetwork$Tensor;)V" } : Jvm.MethodName)) ∈ lw_gd := tin 380 rfl
set_option maxRecDepth 100000 in
theorem q346 : (Jvm.Cond.code ({ cls := "ArenaNetwork$Arena", name := "put", desc := "(LArenaNetwork$Tensor;)V" } : Jvm.MethodName) prog_2_method_4_code (2 : Nat) (Option.none : Option Jvm.ClassFile.FieldType)) ∈ lw_gd := tin 381 rfl
set_option maxRecDepth 100000 in
theorem q347 : (Jvm.Cond.methodLink "ArenaNetwork$Arena" (44 : Nat) ({ cls := "ArenaNetwork$Arena", name := "leastPlace", desc := "(LArenaNetwork$Tensor;)I" } : Jvm.MethodName)) ∈ lw_gd := tin 382 rfl
set_option maxRecDepth 100000 in
theorem q349 : (Jvm.Cond.instanceMethod ({ cls := "ArenaNetwork$Arena", name := "leastPlace", desc := "(LArenaNetwork$Tensor;)I" } : Jvm.MethodName)) ∈ lw_gd := tin 384 rfl
set_option maxRecDepth 100000 in
theorem q350 : (Jvm.Cond.code ({ cls := "ArenaNetwork$Arena", name := "leastPlace", desc := "(LArenaNetwork$Tensor;)I" } : Jvm.MethodName) prog_2_method_5_code (3 : Nat) (Option.some Jvm.ClassFile.FieldType.int)) ∈ lw_gd := tin 385 rfl
set_option maxRecDepth 100000 in
theorem q351 : (Jvm.Cond.methodLink "ArenaNetwork$Arena" (61 : Nat) ({ cls := "ArenaNetwork$Arena", name := "isFree", desc := "(LArenaNetwork$Tensor;I)Z" } : Jvm.MethodName)) ∈ lw_gd := tin 386 rfl
set_option maxRecDepth 100000 in
theorem q353 : (Jvm.Cond.instanceMethod ({ cls := "ArenaNetwork$Arena", name := "isFree", desc := "(LArenaNetwork$Tensor;I)Z" } : Jvm.MethodName)) ∈ lw_gd := tin 388 rfl
set_option maxRecDepth 100000 in
theorem q354 : (Jvm.Cond.code ({ cls := "ArenaNetwork$Arena", name := "isFree", desc := "(LArenaNetwork$Tensor;I)Z" } : Jvm.MethodName) prog_2_method_6_code (6 : Nat) (Option.some Jvm.ClassFile.FieldType.boolean)) ∈ lw_gd := tin 389 rfl
set_option maxRecDepth 100000 in
theorem q355 : (Jvm.Cond.methodLink "ArenaNetwork$Arena" (65 : Nat) ({ cls := "ArenaNetwork$Tensor", name := "meets", desc := "(LArenaNetwork$Tensor;)Z" } : Jvm.MethodName)) ∈ lw_gd := tin 390 rfl
set_option maxRecDepth 100000 in
theorem q356 : (Jvm.Cond.instanceMethod ({ cls := "ArenaNetwork$Tensor", name := "meets", desc := "(LArenaNetwork$Tensor;)Z" } : Jvm.MethodName)) ∈ lw_gd := tin 391 rfl
set_option maxRecDepth 100000 in
theorem q357 : (Jvm.Cond.selects "ArenaNetwork$Tensor" ({ cls := "ArenaNetwork$Tensor", name := "meets", desc := "(LArenaNetwork$Tensor;)Z" } : Jvm.MethodName) ({ cls := "ArenaNetwork$Tensor", name := "meets", desc := "(LArenaNetwork$Tensor;)Z" } : Jvm.MethodName)) ∈ lw_gd := tin 392 rfl
set_option maxRecDepth 100000 in
theorem q358 : (Jvm.Cond.code ({ cls := "ArenaNetwork$Tensor", name := "meets", desc := "(LArenaNetwork$Tensor;)Z" } : Jvm.MethodName) prog_5_method_8_code (2 : Nat) (Option.some Jvm.ClassFile.FieldType.boolean)) ∈ lw_gd := tin 393 rfl
set_option maxRecDepth 100000 in
theorem q359 : (Jvm.Cond.methodLink "ArenaNetwork$Arena" (51 : Nat) ({ cls := "java/lang/Math", name := "max", desc := "(II)I" } : Jvm.MethodName)) ∈ lw_gd := tin 394 rfl
set_option maxRecDepth 100000 in
theorem q360 : (Jvm.Cond.methodLink "ArenaNetwork$Arena" (57 : Nat) ({ cls := "java/util/ArrayList", name := "add", desc := "(Ljava/lang/Object;)Z" } : Jvm.MethodName)) ∈ lw_gd := tin 395 rfl
set_option maxRecDepth 100000 in
theorem q361 : (Jvm.Cond.methodLink "ArenaNetworkLaw" (41 : Nat) ({ cls := "ArenaNetwork", name := "reopen", desc := "()I" } : Jvm.MethodName)) ∈ lw_gd := tin 396 rfl
set_option maxRecDepth 100000 in
theorem q362 : (Jvm.Cond.instanceMethod ({ cls := "ArenaNetwork", name := "reopen", desc := "()I" } : Jvm.MethodName)) ∈ lw_gd := tin 397 rfl
set_option maxRecDepth 100000 in
theorem q363 : (Jvm.Cond.selects "ArenaNetwork" ({ cls := "ArenaNetwork", name := "reopen", desc := "()I" } : Jvm.MethodName) ({ cls := "ArenaNetwork", name := "reopen", desc := "()I" } : Jvm.MethodName)) ∈ lw_gd := tin 398 rfl
set_option maxRecDepth 100000 in
theorem q364 : (Jvm.Cond.code ({ cls := "ArenaNetwork", name := "reopen", desc := "()I" } : Jvm.MethodName) prog_1_method_8_code (1 : Nat) (Option.some Jvm.ClassFile.FieldType.int)) ∈ lw_gd := tin 399 rfl
set_option maxRecDepth 100000 in
theorem q365 : (Jvm.Cond.methodLink "ArenaNetworkLaw" (45 : Nat) ({ cls := "ArenaNetwork", name := "start", desc := "()I" } : Jvm.MethodName)) ∈ lw_gd := tin 400 rfl
set_option maxRecDepth 100000 in
theorem q366 : (Jvm.Cond.instanceMethod ({ cls := "ArenaNetwork", name := "start", desc := "()I" } : Jvm.MethodName)) ∈ lw_gd := tin 401 rfl
set_option maxRecDepth 100000 in
theorem q367 : (Jvm.Cond.selects "ArenaNetwork" ({ cls := "ArenaNetwork", name := "start", desc := "()I" } : Jvm.MethodName) ({ cls := "ArenaNetwork", name := "start", desc := "()I" } : Jvm.MethodName)) ∈ lw_gd := tin 402 rfl
set_option maxRecDepth 100000 in
theorem q368 : (Jvm.Cond.code ({ cls := "ArenaNetwork", name := "start", desc := "()I" } : Jvm.MethodName) prog_1_method_9_code (2 : Nat) (Option.some Jvm.ClassFile.FieldType.int)) ∈ lw_gd := tin 403 rfl
set_option maxRecDepth 100000 in
theorem q369 : (Jvm.Cond.methodLink "ArenaNetwork" (114 : Nat) ({ cls := "ArenaNetwork$Tensor", name := "takeGiven", desc := "()V" } : Jvm.MethodName)) ∈ lw_gd := tin 404 rfl
set_option maxRecDepth 100000 in
theorem q370 : (Jvm.Cond.instanceMethod ({ cls := "ArenaNetwork$Tensor", name := "takeGiven", desc := "()V" } : Jvm.MethodName)) ∈ lw_gd := tin 405 rfl
set_option maxRecDepth 100000 in
theorem q371 : (Jvm.Cond.selects "ArenaNetwork$Tensor" ({ cls := "ArenaNetwork$Tensor", name := "takeGiven", desc := "()V" } : Jvm.MethodName) ({ cls := "ArenaNetwork$Tensor", name := "takeGiven", desc := "()V" } : Jvm.MethodName)) ∈ lw_gd := tin 406 rfl
set_option maxRecDepth 100000 in
theorem q372 : (Jvm.Cond.code ({ cls := "ArenaNetwork$Tensor", name := "takeGiven", desc := "()V" } : Jvm.MethodName) prog_5_method_4_code (1 : Nat) (Option.none : Option Jvm.ClassFile.FieldType)) ∈ lw_gd := tin 407 rfl
set_option maxRecDepth 100000 in
theorem q373 : (Jvm.Cond.methodLink "ArenaNetwork$Tensor" (45 : Nat) ({ cls := "java/lang/System", name := "arraycopy", desc := "(Ljava/lang/Object;ILjava/lang/Object;II)V" } : Jvm.MethodName)) ∈ lw_gd := tin 408 rfl
set_option maxRecDepth 100000 in
theorem q374 : (Jvm.Cond.methodLink "ArenaNetworkLaw" (49 : Nat) ({ cls := "ArenaNetwork", name := "step", desc := "()I" } : Jvm.MethodName)) ∈ lw_gd := tin 409 rfl
set_option maxRecDepth 100000 in
theorem q375 : (Jvm.Cond.instanceMethod ({ cls := "ArenaNetwork", name := "step", desc := "()I" } : Jvm.MethodName)) ∈ lw_gd := tin 410 rfl
set_option maxRecDepth 100000 in
theorem q376 : (Jvm.Cond.selects "ArenaNetwork" ({ cls := "ArenaNetwork", name := "step", desc := "()I" } : Jvm.MethodName) ({ cls := "ArenaNetwork", name := "step", desc := "()I" } : Jvm.MethodName)) ∈ lw_gd := tin 411 rfl
set_option maxRecDepth 100000 in
theorem q377 : (Jvm.Cond.code ({ cls := "ArenaNetwork", name := "step", desc := "()I" } : Jvm.MethodName) prog_1_method_10_code (1 : Nat) (Option.some Jvm.ClassFile.FieldType.int)) ∈ lw_gd := tin 412 rfl
set_option maxRecDepth 100000 in
theorem q378 : (Jvm.Cond.methodLink "ArenaNetwork" (117 : Nat) ({ cls := "ArenaNetwork", name := "doNext", desc := "()V" } : Jvm.MethodName)) ∈ lw_gd := tin 413 rfl
set_option maxRecDepth 100000 in
theorem q380 : (Jvm.Cond.instanceMethod ({ cls := "ArenaNetwork", name := "doNext", desc := "()V" } : Jvm.MethodName)) ∈ lw_gd := tin 415 rfl
set_option maxRecDepth 100000 in
theorem q381 : (Jvm.Cond.code ({ cls := "ArenaNetwork", name := "doNext", desc := "()V" } : Jvm.MethodName) prog_1_method_24_code (2 : Nat) (Option.none : Option Jvm.ClassFile.FieldType)) ∈ lw_gd := tin 416 rfl
set_option maxRecDepth 100000 in
theorem q382 : (Jvm.Cond.methodLink "ArenaNetwork" (187 : Nat) ({ cls := "ArenaNetwork$Operator", name := "makeResult", desc := "(LArenaNetwork$Scale;)V" } : Jvm.MethodName)) ∈ lw_gd := tin 417 rfl
set_option maxRecDepth 100000 in
theorem q383 : (Jvm.Cond.instanceMethod ({ cls := "ArenaNetwork$Operator", name := "makeResult", desc := "(LArenaNetwork$Scale;)V" } : Jvm.MethodName)) ∈ lw_gd := tin 418 rfl
set_option maxRecDepth 100000 in
theorem q384 : (Jvm.Cond.selects "ArenaNetwork$Operator" ({ cls := "ArenaNetwork$Operator", name := "makeResult", desc := "(LArenaNetwork$Scale;)V" } : Jvm.MethodName) ({ cls := "ArenaNetwork$Operator", name := "makeResult", desc := "(LArenaNetwork$Scale;)V" } : Jvm.MethodName)) ∈ lw_gd := tin 419 rfl
set_option maxRecDepth 100000 in
theorem q385 : (Jvm.Cond.code ({ cls := "ArenaNetwork$Operator", name := "makeResult", desc := "(LArenaNetwork$Scale;)V" } : Jvm.MethodName) prog_3_method_3_code (3 : Nat) (Option.none : Option Jvm.ClassFile.FieldType)) ∈ lw_gd := tin 420 rfl
set_option maxRecDepth 100000 in
theorem q386 : (Jvm.Cond.methodLink "ArenaNetwork$Operator" (45 : Nat) ({ cls := "ArenaNetwork$Operator", name := "resultCell", desc := "(ILArenaNetwork$Scale;)I" } : Jvm.MethodName)) ∈ lw_gd := tin 421 rfl
set_option maxRecDepth 100000 in
theorem q388 : (Jvm.Cond.instanceMethod ({ cls := "ArenaNetwork$Operator", name := "resultCell", desc := "(ILArenaNetwork$Scale;)I" } : Jvm.MethodName)) ∈ lw_gd := tin 423 rfl
set_option maxRecDepth 100000 in
theorem q389 : (Jvm.Cond.code ({ cls := "ArenaNetwork$Operator", name := "resultCell", desc := "(ILArenaNetwork$Scale;)I" } : Jvm.MethodName) prog_3_method_4_code (3 : Nat) (Option.some Jvm.ClassFile.FieldType.int)) ∈ lw_gd := tin 424 rfl
set_option maxRecDepth 100000 in
theorem q390 : (Jvm.Cond.methodLink "ArenaNetwork$Operator" (49 : Nat) ({ cls := "ArenaNetwork$Operator", name := "denseSum", desc := "(I)I" } : Jvm.MethodName)) ∈ lw_gd := tin 425 rfl
set_option maxRecDepth 100000 in
theorem q392 : (Jvm.Cond.instanceMethod ({ cls := "ArenaNetwork$Operator", name := "denseSum", desc := "(I)I" } : Jvm.MethodName)) ∈ lw_gd := tin 427 rfl
set_option maxRecDepth 100000 in
theorem q393 : (Jvm.Cond.code ({ cls := "ArenaNetwork$Operator", name := "denseSum", desc := "(I)I" } : Jvm.MethodName) prog_3_method_6_code (4 : Nat) (Option.some Jvm.ClassFile.FieldType.int)) ∈ lw_gd := tin 428 rfl
set_option maxRecDepth 100000 in
theorem q394 : (Jvm.Cond.methodLink "ArenaNetwork$Operator" (62 : Nat) ({ cls := "ArenaNetwork$Tensor", name := "distance", desc := "(I)I" } : Jvm.MethodName)) ∈ lw_gd := tin 429 rfl
set_option maxRecDepth 100000 in
theorem q395 : (Jvm.Cond.instanceMethod ({ cls := "ArenaNetwork$Tensor", name := "distance", desc := "(I)I" } : Jvm.MethodName)) ∈ lw_gd := tin 430 rfl
set_option maxRecDepth 100000 in
theorem q396 : (Jvm.Cond.selects "ArenaNetwork$Tensor" ({ cls := "ArenaNetwork$Tensor", name := "distance", desc := "(I)I" } : Jvm.MethodName) ({ cls := "ArenaNetwork$Tensor", name := "distance", desc := "(I)I" } : Jvm.MethodName)) ∈ lw_gd := tin 431 rfl
set_option maxRecDepth 100000 in
theorem q397 : (Jvm.Cond.code ({ cls := "ArenaNetwork$Tensor", name := "distance", desc := "(I)I" } : Jvm.MethodName) prog_5_method_9_code (2 : Nat) (Option.some Jvm.ClassFile.FieldType.int)) ∈ lw_gd := tin 432 rfl
set_option maxRecDepth 100000 in
theorem q398 : (Jvm.Cond.methodLink "ArenaNetwork$Operator" (53 : Nat) ({ cls := "ArenaNetwork$Scale", name := "applied", desc := "(J)I" } : Jvm.MethodName)) ∈ lw_gd := tin 433 rfl
set_option maxRecDepth 100000 in
theorem q399 : (Jvm.Cond.instanceMethod ({ cls := "ArenaNetwork$Scale", name := "applied", desc := "(J)I" } : Jvm.MethodName)) ∈ lw_gd := tin 434 rfl
set_option maxRecDepth 100000 in
theorem q400 : (Jvm.Cond.selects "ArenaNetwork$Scale" ({ cls := "ArenaNetwork$Scale", name := "applied", desc := "(J)I" } : Jvm.MethodName) ({ cls := "ArenaNetwork$Scale", name := "applied", desc := "(J)I" } : Jvm.MethodName)) ∈ lw_gd := tin 435 rfl
set_option maxRecDepth 100000 in
theorem q401 : (Jvm.Cond.code ({ cls := "ArenaNetwork$Scale", name := "applied", desc := "(J)I" } : Jvm.MethodName) prog_4_method_2_code (5 : Nat) (Option.some Jvm.ClassFile.FieldType.int)) ∈ lw_gd := tin 436 rfl
set_option maxRecDepth 100000 in
theorem q402 : (Jvm.Cond.constantLong "ArenaNetwork$Scale" (17 : Nat) (2147483648 : Int64)) ∈ lw_gd := tin 437 rfl
set_option maxRecDepth 100000 in
theorem q404 : (Jvm.Cond.static ({ cls := "ArenaNetwork", name := "rounded", desc := "(JJ)J" } : Jvm.MethodName)) ∈ lw_gd := tin 439 rfl
set_option maxRecDepth 100000 in
theorem q405 : (Jvm.Cond.code ({ cls := "ArenaNetwork", name := "rounded", desc := "(JJ)J" } : Jvm.MethodName) prog_1_method_28_code (6 : Nat) (Option.some Jvm.ClassFile.FieldType.long)) ∈ lw_gd := tin 440 rfl
set_option maxRecDepth 100000 in
theorem q406 : (Jvm.Cond.methodLink "ArenaNetwork" (191 : Nat) ({ cls := "java/lang/Math", name := "abs", desc := "(J)J" } : Jvm.MethodName)) ∈ lw_gd := tin 441 rfl
set_option maxRecDepth 100000 in
theorem q407 : (Jvm.Cond.static ({ cls := "java/lang/Math", name := "abs", desc := "(J)J" } : Jvm.MethodName)) ∈ lw_gd := tin 442 rfl
set_option maxRecDepth 100000 in
theorem q408 : (Jvm.Cond.code ({ cls := "java/lang/Math", name := "abs", desc := "(J)J" } : Jvm.MethodName) prog_11_method_61_code (2 : Nat) (Option.some Jvm.ClassFile.FieldType.long)) ∈ lw_gd := tin 443 rfl
set_option maxRecDepth 100000 in
theorem q409 : (Jvm.Cond.constantLong "ArenaNetwork" (197 : Nat) (2 : Int64)) ∈ lw_gd := tin 444 rfl
set_option maxRecDepth 100000 in
theorem q410 : (Jvm.Cond.methodLink "ArenaNetwork$Operator" (59 : Nat) ({ cls := "ArenaNetwork$Operator", name := "clampedResult", desc := "(I)I" } : Jvm.MethodName)) ∈ lw_gd := tin 445 rfl
set_option maxRecDepth 100000 in
theorem q412 : (Jvm.Cond.instanceMethod ({ cls := "ArenaNetwork$Operator", name := "clampedResult", desc := "(I)I" } : Jvm.MethodName)) ∈ lw_gd := tin 447 rfl
set_option maxRecDepth 100000 in
theorem q413 : (Jvm.Cond.code ({ cls := "ArenaNetwork$Operator", name := "clampedResult", desc := "(I)I" } : Jvm.MethodName) prog_3_method_5_code (2 : Nat) (Option.some Jvm.ClassFile.FieldType.int)) ∈ lw_gd := tin 448 rfl
set_option maxRecDepth 100000 in
theorem q414 : (Jvm.Cond.methodLink "ArenaNetwork$Operator" (75 : Nat) ({ cls := "java/lang/Math", name := "min", desc := "(II)I" } : Jvm.MethodName)) ∈ lw_gd := tin 449 rfl
set_option maxRecDepth 100000 in
theorem q415 : (Jvm.Cond.methodLink "ArenaNetwork$Operator" (81 : Nat) ({ cls := "java/lang/Math", name := "max", desc := "(II)I" } : Jvm.MethodName)) ∈ lw_gd := tin 450 rfl
set_option maxRecDepth 100000 in
theorem q416 : (Jvm.Cond.methodLink "ArenaNetwork$Operator" (65 : Nat) ({ cls := "ArenaNetwork$Operator", name := "greatestOfGroup", desc := "(I)I" } : Jvm.MethodName)) ∈ lw_gd := tin 451 rfl
set_option maxRecDepth 100000 in
theorem q418 : (Jvm.Cond.instanceMethod ({ cls := "ArenaNetwork$Operator", name := "greatestOfGroup", desc := "(I)I" } : Jvm.MethodName)) ∈ lw_gd := tin 453 rfl
set_option maxRecDepth 100000 in
theorem q419 : (Jvm.Cond.code ({ cls := "ArenaNetwork$Operator", name := "greatestOfGroup", desc := "(I)I" } : Jvm.MethodName) prog_3_method_7_code (4 : Nat) (Option.some Jvm.ClassFile.FieldType.int)) ∈ lw_gd := tin 454 rfl
set_option maxRecDepth 100000 in
theorem q420 : (Jvm.Cond.methodLink "ArenaNetwork$Operator" (68 : Nat) ({ cls := "ArenaNetwork$Operator", name := "sumOfGroup", desc := "(I)I" } : Jvm.MethodName)) ∈ lw_gd := tin 455 rfl
set_option maxRecDepth 100000 in
theorem q422 : (Jvm.Cond.instanceMethod ({ cls := "ArenaNetwork$Operator", name := "sumOfGroup", desc := "(I)I" } : Jvm.MethodName)) ∈ lw_gd := tin 457 rfl
set_option maxRecDepth 100000 in
theorem q423 : (Jvm.Cond.code ({ cls := "ArenaNetwork$Operator", name := "sumOfGroup", desc := "(I)I" } : Jvm.MethodName) prog_3_method_8_code (4 : Nat) (Option.some Jvm.ClassFile.FieldType.int)) ∈ lw_gd := tin 458 rfl
set_option maxRecDepth 100000 in
theorem q425 : (Jvm.Cond.methodLink "ArenaNetworkLaw" (53 : Nat) ({ cls := "ArenaNetwork", name := "finish", desc := "()I" } : Jvm.MethodName)) ∈ lw_gd := tin 460 rfl
set_option maxRecDepth 100000 in
theorem q426 : (Jvm.Cond.instanceMethod ({ cls := "ArenaNetwork", name := "finish", desc := "()I" } : Jvm.MethodName)) ∈ lw_gd := tin 461 rfl
set_option maxRecDepth 100000 in
theorem q427 : (Jvm.Cond.selects "ArenaNetwork" ({ cls := "ArenaNetwork", name := "finish", desc := "()I" } : Jvm.MethodName) ({ cls := "ArenaNetwork", name := "finish", desc := "()I" } : Jvm.MethodName)) ∈ lw_gd := tin 462 rfl
set_option maxRecDepth 100000 in
theorem q428 : (Jvm.Cond.code ({ cls := "ArenaNetwork", name := "finish", desc := "()I" } : Jvm.MethodName) prog_1_method_11_code (3 : Nat) (Option.some Jvm.ClassFile.FieldType.int)) ∈ lw_gd := tin 463 rfl
set_option maxRecDepth 100000 in
theorem q429 : (Jvm.Cond.methodLink "ArenaNetworkLaw" (57 : Nat) ({ cls := "ArenaNetwork", name := "cell", desc := "(II)I" } : Jvm.MethodName)) ∈ lw_gd := tin 464 rfl
set_option maxRecDepth 100000 in
theorem q430 : (Jvm.Cond.instanceMethod ({ cls := "ArenaNetwork", name := "cell", desc := "(II)I" } : Jvm.MethodName)) ∈ lw_gd := tin 465 rfl
set_option maxRecDepth 100000 in
theorem q431 : (Jvm.Cond.selects "ArenaNetwork" ({ cls := "ArenaNetwork", name := "cell", desc := "(II)I" } : Jvm.MethodName) ({ cls := "ArenaNetwork", name := "cell", desc := "(II)I" } : Jvm.MethodName)) ∈ lw_gd := tin 466 rfl
set_option maxRecDepth 100000 in
theorem q432 : (Jvm.Cond.code ({ cls := "ArenaNetwork", name := "cell", desc := "(II)I" } : Jvm.MethodName) prog_1_method_12_code (4 : Nat) (Option.some Jvm.ClassFile.FieldType.int)) ∈ lw_gd := tin 467 rfl
set_option maxRecDepth 100000 in
theorem q433 : (Jvm.Cond.methodLink "ArenaNetwork" (120 : Nat) ({ cls := "ArenaNetwork$Tensor", name := "livesAfter", desc := "(I)Z" } : Jvm.MethodName)) ∈ lw_gd := tin 468 rfl
set_option maxRecDepth 100000 in
theorem q434 : (Jvm.Cond.instanceMethod ({ cls := "ArenaNetwork$Tensor", name := "livesAfter", desc := "(I)Z" } : Jvm.MethodName)) ∈ lw_gd := tin 469 rfl
set_option maxRecDepth 100000 in
theorem q435 : (Jvm.Cond.selects "ArenaNetwork$Tensor" ({ cls := "ArenaNetwork$Tensor", name := "livesAfter", desc := "(I)Z" } : Jvm.MethodName) ({ cls := "ArenaNetwork$Tensor", name := "livesAfter", desc := "(I)Z" } : Jvm.MethodName)) ∈ lw_gd := tin 470 rfl
set_option maxRecDepth 100000 in
theorem q436 : (Jvm.Cond.code ({ cls := "ArenaNetwork$Tensor", name := "livesAfter", desc := "(I)Z" } : Jvm.MethodName) prog_5_method_7_code (2 : Nat) (Option.some Jvm.ClassFile.FieldType.boolean)) ∈ lw_gd := tin 471 rfl
set_option maxRecDepth 100000 in
theorem q437 : (Jvm.Cond.methodLink "ArenaNetworkLaw" (62 : Nat) ({ cls := "ArenaNetwork", name := "offset", desc := "(I)I" } : Jvm.MethodName)) ∈ lw_gd := tin 472 rfl
set_option maxRecDepth 100000 in
theorem q438 : (Jvm.Cond.instanceMethod ({ cls := "ArenaNetwork", name := "offset", desc := "(I)I" } : Jvm.MethodName)) ∈ lw_gd := tin 473 rfl
set_option maxRecDepth 100000 in
theorem q439 : (Jvm.Cond.selects "ArenaNetwork" ({ cls := "ArenaNetwork", name := "offset", desc := "(I)I" } : Jvm.MethodName) ({ cls := "ArenaNetwork", name := "offset", desc := "(I)I" } : Jvm.MethodName)) ∈ lw_gd := tin 474 rfl
set_option maxRecDepth 100000 in
theorem q440 : (Jvm.Cond.code ({ cls := "ArenaNetwork", name := "offset", desc := "(I)I" } : Jvm.MethodName) prog_1_method_13_code (3 : Nat) (Option.some Jvm.ClassFile.FieldType.int)) ∈ lw_gd := tin 475 rfl
set_option maxRecDepth 100000 in
theorem q441 : (Jvm.Cond.methodLink "ArenaNetwork" (126 : Nat) ({ cls := "ArenaNetwork", name := "livingTensorAt", desc := "(I)LArenaNetwork$Tensor;" } : Jvm.MethodName)) ∈ lw_gd := tin 476 rfl
set_option maxRecDepth 100000 in
theorem q443 : (Jvm.Cond.instanceMethod ({ cls := "ArenaNetwork", name := "livingTensorAt", desc := "(I)LArenaNetwork$Tensor;" } : Jvm.MethodName)) ∈ lw_gd := tin 478 rfl
set_option maxRecDepth 100000 in
theorem q444 : (Jvm.Cond.code ({ cls := "ArenaNetwork", name := "livingTensorAt", desc := "(I)LArenaNetwork$Tensor;" } : Jvm.MethodName) prog_1_method_19_code (3 : Nat) (Option.some (Jvm.ClassFile.FieldType.object "ArenaNetwork$Tensor"))) ∈ lw_gd := tin 479 rfl
set_option maxRecDepth 100000 in
theorem q445 : (Jvm.Cond.methodLink "ArenaNetworkLaw" (67 : Nat) ({ cls := "ArenaNetwork", name := "life", desc := "(IZ)I" } : Jvm.MethodName)) ∈ lw_gd := tin 480 rfl
set_option maxRecDepth 100000 in
theorem q446 : (Jvm.Cond.instanceMethod ({ cls := "ArenaNetwork", name := "life", desc := "(IZ)I" } : Jvm.MethodName)) ∈ lw_gd := tin 481 rfl
set_option maxRecDepth 100000 in
theorem q447 : (Jvm.Cond.selects "ArenaNetwork" ({ cls := "ArenaNetwork", name := "life", desc := "(IZ)I" } : Jvm.MethodName) ({ cls := "ArenaNetwork", name := "life", desc := "(IZ)I" } : Jvm.MethodName)) ∈ lw_gd := tin 482 rfl
set_option maxRecDepth 100000 in
theorem q448 : (Jvm.Cond.code ({ cls := "ArenaNetwork", name := "life", desc := "(IZ)I" } : Jvm.MethodName) prog_1_method_14_code (4 : Nat) (Option.some Jvm.ClassFile.FieldType.int)) ∈ lw_gd := tin 483 rfl
set_option maxRecDepth 100000 in
theorem q449 : (Jvm.Cond.methodLink "ArenaNetworkLaw" (71 : Nat) ({ cls := "ArenaNetwork", name := "placed", desc := "(I)I" } : Jvm.MethodName)) ∈ lw_gd := tin 484 rfl
set_option maxRecDepth 100000 in
theorem q450 : (Jvm.Cond.instanceMethod ({ cls := "ArenaNetwork", name := "placed", desc := "(I)I" } : Jvm.MethodName)) ∈ lw_gd := tin 485 rfl
set_option maxRecDepth 100000 in
theorem q451 : (Jvm.Cond.selects "ArenaNetwork" ({ cls := "ArenaNetwork", name := "placed", desc := "(I)I" } : Jvm.MethodName) ({ cls := "ArenaNetwork", name := "placed", desc := "(I)I" } : Jvm.MethodName)) ∈ lw_gd := tin 486 rfl
set_option maxRecDepth 100000 in
theorem q452 : (Jvm.Cond.code ({ cls := "ArenaNetwork", name := "placed", desc := "(I)I" } : Jvm.MethodName) prog_1_method_15_code (2 : Nat) (Option.some Jvm.ClassFile.FieldType.int)) ∈ lw_gd := tin 487 rfl
set_option maxRecDepth 100000 in
theorem q453 : (Jvm.Cond.methodLink "ArenaNetworkLaw" (75 : Nat) ({ cls := "ArenaNetwork", name := "scaled", desc := "(II)I" } : Jvm.MethodName)) ∈ lw_gd := tin 488 rfl
set_option maxRecDepth 100000 in
theorem q454 : (Jvm.Cond.instanceMethod ({ cls := "ArenaNetwork", name := "scaled", desc := "(II)I" } : Jvm.MethodName)) ∈ lw_gd := tin 489 rfl
set_option maxRecDepth 100000 in
theorem q455 : (Jvm.Cond.selects "ArenaNetwork" ({ cls := "ArenaNetwork", name := "scaled", desc := "(II)I" } : Jvm.MethodName) ({ cls := "ArenaNetwork", name := "scaled", desc := "(II)I" } : Jvm.MethodName)) ∈ lw_gd := tin 490 rfl
set_option maxRecDepth 100000 in
theorem q456 : (Jvm.Cond.code ({ cls := "ArenaNetwork", name := "scaled", desc := "(II)I" } : Jvm.MethodName) prog_1_method_16_code (3 : Nat) (Option.some Jvm.ClassFile.FieldType.int)) ∈ lw_gd := tin 491 rfl
set_option maxRecDepth 100000 in
theorem q457 : (Jvm.Cond.constant "ArenaNetwork" (144 : Nat) (-16777216 : Int32)) ∈ lw_gd := tin 492 rfl
set_option maxRecDepth 100000 in
theorem q458 : (Jvm.Cond.constant "ArenaNetwork" (145 : Nat) (16777216 : Int32)) ∈ lw_gd := tin 493 rfl
set_option maxRecDepth 100000 in
theorem q459 : (Jvm.Cond.methodLink "ArenaNetwork" (146 : Nat) ({ cls := "ArenaNetwork$Scale", name := "applied", desc := "(J)I" } : Jvm.MethodName)) ∈ lw_gd := tin 494 rfl
set_option maxRecDepth 100000 in
theorem q460 : (Jvm.Cond.methodLink "ArenaNetworkLaw" (79 : Nat) ({ cls := "ArenaNetwork", name := "count", desc := "(I)I" } : Jvm.MethodName)) ∈ lw_gd := tin 495 rfl
set_option maxRecDepth 100000 in
theorem q461 : (Jvm.Cond.instanceMethod ({ cls := "ArenaNetwork", name := "count", desc := "(I)I" } : Jvm.MethodName)) ∈ lw_gd := tin 496 rfl
set_option maxRecDepth 100000 in
theorem q462 : (Jvm.Cond.selects "ArenaNetwork" ({ cls := "ArenaNetwork", name := "count", desc := "(I)I" } : Jvm.MethodName) ({ cls := "ArenaNetwork", name := "count", desc := "(I)I" } : Jvm.MethodName)) ∈ lw_gd := tin 497 rfl
set_option maxRecDepth 100000 in
theorem q463 : (Jvm.Cond.code ({ cls := "ArenaNetwork", name := "count", desc := "(I)I" } : Jvm.MethodName) prog_1_method_17_code (2 : Nat) (Option.some Jvm.ClassFile.FieldType.int)) ∈ lw_gd := tin 498 rfl
set_option maxRecDepth 100000 in
theorem q464 : (Jvm.Cond.methodLink "ArenaNetwork" (150 : Nat) ({ cls := "ArenaNetwork$Arena", name := "sumOfLengths", desc := "()I" } : Jvm.MethodName)) ∈ lw_gd := tin 499 rfl
set_option maxRecDepth 100000 in
theorem q465 : (Jvm.Cond.instanceMethod ({ cls := "ArenaNetwork$Arena", name := "sumOfLengths", desc := "()I" } : Jvm.MethodName)) ∈ lw_gd := tin 500 rfl
set_option maxRecDepth 100000 in
theorem q466 : (Jvm.Cond.selects "ArenaNetwork$Arena" ({ cls := "ArenaNetwork$Arena", name := "sumOfLengths", desc := "()I" } : Jvm.MethodName) ({ cls := "ArenaNetwork$Arena", name := "sumOfLengths", desc := "()I" } : Jvm.MethodName)) ∈ lw_gd := tin 501 rfl
set_option maxRecDepth 100000 in
theorem q467 : (Jvm.Cond.code ({ cls := "ArenaNetwork$Arena", name := "sumOfLengths", desc := "()I" } : Jvm.MethodName) prog_2_method_3_code (3 : Nat) (Option.some Jvm.ClassFile.FieldType.int)) ∈ lw_gd := tin 502 rfl
set_option maxRecDepth 100000 in
theorem q468 : (Jvm.Cond.classLink "ArenaNetworkLaw" (10 : Nat) "ArenaNetworkModel") ∈ lw_gd := tin 503 rfl
set_option maxRecDepth 100000 in
theorem q469 : (Jvm.Cond.instantiable "ArenaNetworkModel" (19 : Nat)) ∈ lw_gd := tin 504 rfl
set_option maxRecDepth 100000 in
theorem q470 : (Jvm.Cond.methodLink "ArenaNetworkLaw" (12 : Nat) ({ cls := "ArenaNetworkModel", name := "<init>", desc := "()V" } : Jvm.MethodName)) ∈ lw_gd := tin 505 rfl
set_option maxRecDepth 100000 in
theorem q471 : (Jvm.Cond.instanceMethod ({ cls := "ArenaNetworkModel", name := "<init>", desc := "()V" } : Jvm.MethodName)) ∈ lw_gd := tin 506 rfl
set_option maxRecDepth 100000 in
theorem q472 : (Jvm.Cond.code ({ cls := "ArenaNetworkModel", name := "<init>", desc := "()V" } : Jvm.MethodName) prog_7_method_1_code (2 : Nat) (Option.none : Option Jvm.ClassFile.FieldType)) ∈ lw_gd := tin 507 rfl
set_option maxRecDepth 100000 in
theorem q473 : (Jvm.Cond.methodLink "ArenaNetworkModel" (1 : Nat) ({ cls := "java/lang/Object", name := "<init>", desc := "()V" } : Jvm.MethodName)) ∈ lw_gd := tin 508 rfl
set_option maxRecDepth 100000 in
theorem q474 : (Jvm.Cond.constant "ArenaNetworkModel" (60 : Nat) (1073741824 : Int32)) ∈ lw_gd := tin 509 rfl
set_option maxRecDepth 100000 in
theorem q475 : (Jvm.Cond.fieldLink "ArenaNetworkModel" (7 : Nat) "ArenaNetworkModel" "kind" "[I") ∈ lw_gd := tin 510 rfl
set_option maxRecDepth 100000 in
theorem q476 : (Jvm.Cond.fieldLink "ArenaNetworkModel" (13 : Nat) "ArenaNetworkModel" "length" "[I") ∈ lw_gd := tin 511 rfl
set_option maxRecDepth 100000 in
theorem q477 : (Jvm.Cond.fieldLink "ArenaNetworkModel" (16 : Nat) "ArenaNetworkModel" "zero" "[I") ∈ lw_gd := tin 512 rfl
set_option maxRecDepth 100000 in
theorem q478 : (Jvm.Cond.fieldLink "ArenaNetworkModel" (19 : Nat) "ArenaNetworkModel" "kept" "[Z") ∈ lw_gd := tin 513 rfl
set_option maxRecDepth 100000 in
theorem q479 : (Jvm.Cond.fieldLink "ArenaNetworkModel" (23 : Nat) "ArenaNetworkModel" "given" "[I") ∈ lw_gd := tin 514 rfl
set_option maxRecDepth 100000 in
theorem q480 : (Jvm.Cond.fieldLink "ArenaNetworkModel" (26 : Nat) "ArenaNetworkModel" "now" "[I") ∈ lw_gd := tin 515 rfl
set_option maxRecDepth 100000 in
theorem q481 : (Jvm.Cond.fieldLink "ArenaNetworkModel" (61 : Nat) "ArenaNetworkModel" "tensors" "I") ∈ lw_gd := tin 516 rfl
set_option maxRecDepth 100000 in
theorem q482 : (Jvm.Cond.fieldLink "ArenaNetworkModel" (29 : Nat) "ArenaNetworkModel" "multiplier" "[I") ∈ lw_gd := tin 517 rfl
set_option maxRecDepth 100000 in
theorem q483 : (Jvm.Cond.fieldLink "ArenaNetworkModel" (32 : Nat) "ArenaNetworkModel" "shift" "[I") ∈ lw_gd := tin 518 rfl
set_option maxRecDepth 100000 in
theorem q484 : (Jvm.Cond.fieldLink "ArenaNetworkModel" (35 : Nat) "ArenaNetworkModel" "what" "[I") ∈ lw_gd := tin 519 rfl
set_option maxRecDepth 100000 in
theorem q485 : (Jvm.Cond.fieldLink "ArenaNetworkModel" (38 : Nat) "ArenaNetworkModel" "sa" "[I") ∈ lw_gd := tin 520 rfl
set_option maxRecDepth 100000 in
theorem q486 : (Jvm.Cond.fieldLink "ArenaNetworkModel" (41 : Nat) "ArenaNetworkModel" "sb" "[I") ∈ lw_gd := tin 521 rfl
set_option maxRecDepth 100000 in
theorem q487 : (Jvm.Cond.fieldLink "ArenaNetworkModel" (44 : Nat) "ArenaNetworkModel" "result" "[I") ∈ lw_gd := tin 522 rfl
set_option maxRecDepth 100000 in
theorem q488 : (Jvm.Cond.fieldLink "ArenaNetworkModel" (47 : Nat) "ArenaNetworkModel" "setting" "[I") ∈ lw_gd := tin 523 rfl
set_option maxRecDepth 100000 in
theorem q489 : (Jvm.Cond.fieldLink "ArenaNetworkModel" (75 : Nat) "ArenaNetworkModel" "operators" "I") ∈ lw_gd := tin 524 rfl
set_option maxRecDepth 100000 in
theorem q490 : (Jvm.Cond.fieldLink "ArenaNetworkModel" (68 : Nat) "ArenaNetworkModel" "prepared" "Z") ∈ lw_gd := tin 525 rfl
set_option maxRecDepth 100000 in
theorem q491 : (Jvm.Cond.fieldLink "ArenaNetworkModel" (50 : Nat) "ArenaNetworkModel" "offsets" "[I") ∈ lw_gd := tin 526 rfl
set_option maxRecDepth 100000 in
theorem q492 : (Jvm.Cond.fieldLink "ArenaNetworkModel" (53 : Nat) "ArenaNetworkModel" "placedAs" "[I") ∈ lw_gd := tin 527 rfl
set_option maxRecDepth 100000 in
theorem q493 : (Jvm.Cond.fieldLink "ArenaNetworkModel" (56 : Nat) "ArenaNetworkModel" "done" "I") ∈ lw_gd := tin 528 rfl
set_option maxRecDepth 100000 in
theorem q533 : (Jvm.Cond.arrayClass Jvm.ClassFile.FieldType.boolean) ∈ lw_gd := tin 568 rfl
set_option maxRecDepth 100000 in
theorem q534 : (Jvm.Cond.methodLink "ArenaNetworkLaw" (17 : Nat) ({ cls := "ArenaNetworkModel", name := "tensor", desc := "(III)I" } : Jvm.MethodName)) ∈ lw_gd := tin 569 rfl
set_option maxRecDepth 100000 in
theorem q535 : (Jvm.Cond.instanceMethod ({ cls := "ArenaNetworkModel", name := "tensor", desc := "(III)I" } : Jvm.MethodName)) ∈ lw_gd := tin 570 rfl
set_option maxRecDepth 100000 in
theorem q536 : (Jvm.Cond.selects "ArenaNetworkModel" ({ cls := "ArenaNetworkModel", name := "tensor", desc := "(III)I" } : Jvm.MethodName) ({ cls := "ArenaNetworkModel", name := "tensor", desc := "(III)I" } : Jvm.MethodName)) ∈ lw_gd := tin 571 rfl
set_option maxRecDepth 100000 in
theorem q537 : (Jvm.Cond.code ({ cls := "ArenaNetworkModel", name := "tensor", desc := "(III)I" } : Jvm.MethodName) prog_7_method_4_code (4 : Nat) (Option.some Jvm.ClassFile.FieldType.int)) ∈ lw_gd := tin 572 rfl
set_option maxRecDepth 100000 in
theorem q538 : (Jvm.Cond.methodLink "ArenaNetworkModel" (64 : Nat) ({ cls := "ArenaNetworkModel", name := "noByte", desc := "(I)Z" } : Jvm.MethodName)) ∈ lw_gd := tin 573 rfl
set_option maxRecDepth 100000 in
theorem q540 : (Jvm.Cond.instanceMethod ({ cls := "ArenaNetworkModel", name := "noByte", desc := "(I)Z" } : Jvm.MethodName)) ∈ lw_gd := tin 575 rfl
set_option maxRecDepth 100000 in
theorem q541 : (Jvm.Cond.code ({ cls := "ArenaNetworkModel", name := "noByte", desc := "(I)Z" } : Jvm.MethodName) prog_7_method_3_code (2 : Nat) (Option.some Jvm.ClassFile.FieldType.boolean)) ∈ lw_gd := tin 576 rfl
set_option maxRecDepth 100000 in
theorem q542 : (Jvm.Cond.methodLink "ArenaNetworkLaw" (21 : Nat) ({ cls := "ArenaNetworkModel", name := "set", desc := "(III)I" } : Jvm.MethodName)) ∈ lw_gd := tin 577 rfl
set_option maxRecDepth 100000 in
theorem q543 : (Jvm.Cond.instanceMethod ({ cls := "ArenaNetworkModel", name := "set", desc := "(III)I" } : Jvm.MethodName)) ∈ lw_gd := tin 578 rfl
set_option maxRecDepth 100000 in
theorem q544 : (Jvm.Cond.selects "ArenaNetworkModel" ({ cls := "ArenaNetworkModel", name := "set", desc := "(III)I" } : Jvm.MethodName) ({ cls := "ArenaNetworkModel", name := "set", desc := "(III)I" } : Jvm.MethodName)) ∈ lw_gd := tin 579 rfl
set_option maxRecDepth 100000 in
theorem q545 : (Jvm.Cond.code ({ cls := "ArenaNetworkModel", name := "set", desc := "(III)I" } : Jvm.MethodName) prog_7_method_5_code (4 : Nat) (Option.some Jvm.ClassFile.FieldType.int)) ∈ lw_gd := tin 580 rfl
set_option maxRecDepth 100000 in
theorem q546 : (Jvm.Cond.methodLink "ArenaNetworkModel" (72 : Nat) ({ cls := "ArenaNetworkModel", name := "noTensor", desc := "(I)Z" } : Jvm.MethodName)) ∈ lw_gd := tin 581 rfl
set_option maxRecDepth 100000 in
theorem q548 : (Jvm.Cond.instanceMethod ({ cls := "ArenaNetworkModel", name := "noTensor", desc := "(I)Z" } : Jvm.MethodName)) ∈ lw_gd := tin 583 rfl
set_option maxRecDepth 100000 in
theorem q549 : (Jvm.Cond.code ({ cls := "ArenaNetworkModel", name := "noTensor", desc := "(I)Z" } : Jvm.MethodName) prog_7_method_2_code (2 : Nat) (Option.some Jvm.ClassFile.FieldType.boolean)) ∈ lw_gd := tin 584 rfl
set_option maxRecDepth 100000 in
theorem q550 : (Jvm.Cond.methodLink "ArenaNetworkLaw" (25 : Nat) ({ cls := "ArenaNetworkModel", name := "scale", desc := "(III)I" } : Jvm.MethodName)) ∈ lw_gd := tin 585 rfl
set_option maxRecDepth 100000 in
theorem q551 : (Jvm.Cond.instanceMethod ({ cls := "ArenaNetworkModel", name := "scale", desc := "(III)I" } : Jvm.MethodName)) ∈ lw_gd := tin 586 rfl
set_option maxRecDepth 100000 in
theorem q552 : (Jvm.Cond.selects "ArenaNetworkModel" ({ cls := "ArenaNetworkModel", name := "scale", desc := "(III)I" } : Jvm.MethodName) ({ cls := "ArenaNetworkModel", name := "scale", desc := "(III)I" } : Jvm.MethodName)) ∈ lw_gd := tin 587 rfl
set_option maxRecDepth 100000 in
theorem q553 : (Jvm.Cond.code ({ cls := "ArenaNetworkModel", name := "scale", desc := "(III)I" } : Jvm.MethodName) prog_7_method_6_code (4 : Nat) (Option.some Jvm.ClassFile.FieldType.int)) ∈ lw_gd := tin 588 rfl
set_option maxRecDepth 100000 in
theorem q554 : (Jvm.Cond.methodLink "ArenaNetworkLaw" (30 : Nat) ({ cls := "ArenaNetworkModel", name := "operator", desc := "(IIIII)I" } : Jvm.MethodName)) ∈ lw_gd := tin 589 rfl
set_option maxRecDepth 100000 in
theorem q555 : (Jvm.Cond.instanceMethod ({ cls := "ArenaNetworkModel", name := "operator", desc := "(IIIII)I" } : Jvm.MethodName)) ∈ lw_gd := tin 590 rfl
set_option maxRecDepth 100000 in
theorem q556 : (Jvm.Cond.selects "ArenaNetworkModel" ({ cls := "ArenaNetworkModel", name := "operator", desc := "(IIIII)I" } : Jvm.MethodName) ({ cls := "ArenaNetworkModel", name := "operator", desc := "(IIIII)I" } : Jvm.MethodName)) ∈ lw_gd := tin 591 rfl
set_option maxRecDepth 100000 in
theorem q557 : (Jvm.Cond.code ({ cls := "ArenaNetworkModel", name := "operator", desc := "(IIIII)I" } : Jvm.MethodName) prog_7_method_7_code (6 : Nat) (Option.some Jvm.ClassFile.FieldType.int)) ∈ lw_gd := tin 592 rfl
set_option maxRecDepth 100000 in
theorem q558 : (Jvm.Cond.methodLink "ArenaNetworkLaw" (35 : Nat) ({ cls := "ArenaNetworkModel", name := "keep", desc := "(IZ)I" } : Jvm.MethodName)) ∈ lw_gd := tin 593 rfl
set_option maxRecDepth 100000 in
theorem q559 : (Jvm.Cond.instanceMethod ({ cls := "ArenaNetworkModel", name := "keep", desc := "(IZ)I" } : Jvm.MethodName)) ∈ lw_gd := tin 594 rfl
set_option maxRecDepth 100000 in
theorem q560 : (Jvm.Cond.selects "ArenaNetworkModel" ({ cls := "ArenaNetworkModel", name := "keep", desc := "(IZ)I" } : Jvm.MethodName) ({ cls := "ArenaNetworkModel", name := "keep", desc := "(IZ)I" } : Jvm.MethodName)) ∈ lw_gd := tin 595 rfl
set_option maxRecDepth 100000 in
theorem q561 : (Jvm.Cond.code ({ cls := "ArenaNetworkModel", name := "keep", desc := "(IZ)I" } : Jvm.MethodName) prog_7_method_8_code (3 : Nat) (Option.some Jvm.ClassFile.FieldType.int)) ∈ lw_gd := tin 596 rfl
set_option maxRecDepth 100000 in
theorem q562 : (Jvm.Cond.methodLink "ArenaNetworkLaw" (74 : Nat) ({ cls := "ArenaNetworkModel", name := "placed", desc := "(I)I" } : Jvm.MethodName)) ∈ lw_gd := tin 597 rfl
set_option maxRecDepth 100000 in
theorem q563 : (Jvm.Cond.instanceMethod ({ cls := "ArenaNetworkModel", name := "placed", desc := "(I)I" } : Jvm.MethodName)) ∈ lw_gd := tin 598 rfl
set_option maxRecDepth 100000 in
theorem q564 : (Jvm.Cond.selects "ArenaNetworkModel" ({ cls := "ArenaNetworkModel", name := "placed", desc := "(I)I" } : Jvm.MethodName) ({ cls := "ArenaNetworkModel", name := "placed", desc := "(I)I" } : Jvm.MethodName)) ∈ lw_gd := tin 599 rfl
set_option maxRecDepth 100000 in
theorem q565 : (Jvm.Cond.code ({ cls := "ArenaNetworkModel", name := "placed", desc := "(I)I" } : Jvm.MethodName) prog_7_method_16_code (5 : Nat) (Option.some Jvm.ClassFile.FieldType.int)) ∈ lw_gd := tin 600 rfl
set_option maxRecDepth 100000 in
theorem q566 : (Jvm.Cond.methodLink "ArenaNetworkModel" (93 : Nat) ({ cls := "ArenaNetworkModel", name := "lives", desc := "(I)Z" } : Jvm.MethodName)) ∈ lw_gd := tin 601 rfl
set_option maxRecDepth 100000 in
theorem q568 : (Jvm.Cond.instanceMethod ({ cls := "ArenaNetworkModel", name := "lives", desc := "(I)Z" } : Jvm.MethodName)) ∈ lw_gd := tin 603 rfl
set_option maxRecDepth 100000 in
theorem q569 : (Jvm.Cond.code ({ cls := "ArenaNetworkModel", name := "lives", desc := "(I)Z" } : Jvm.MethodName) prog_7_method_14_code (2 : Nat) (Option.some Jvm.ClassFile.FieldType.boolean)) ∈ lw_gd := tin 604 rfl
set_option maxRecDepth 100000 in
theorem q570 : (Jvm.Cond.methodLink "ArenaNetworkModel" (78 : Nat) ({ cls := "ArenaNetworkModel", name := "maker", desc := "(II)I" } : Jvm.MethodName)) ∈ lw_gd := tin 605 rfl
set_option maxRecDepth 100000 in
theorem q572 : (Jvm.Cond.instanceMethod ({ cls := "ArenaNetworkModel", name := "maker", desc := "(II)I" } : Jvm.MethodName)) ∈ lw_gd := tin 607 rfl
set_option maxRecDepth 100000 in
theorem q573 : (Jvm.Cond.code ({ cls := "ArenaNetworkModel", name := "maker", desc := "(II)I" } : Jvm.MethodName) prog_7_method_9_code (4 : Nat) (Option.some Jvm.ClassFile.FieldType.int)) ∈ lw_gd := tin 608 rfl
set_option maxRecDepth 100000 in
theorem q574 : (Jvm.Cond.methodLink "ArenaNetworkLaw" (40 : Nat) ({ cls := "ArenaNetworkModel", name := "prepare", desc := "()I" } : Jvm.MethodName)) ∈ lw_gd := tin 609 rfl
set_option maxRecDepth 100000 in
theorem q575 : (Jvm.Cond.instanceMethod ({ cls := "ArenaNetworkModel", name := "prepare", desc := "()I" } : Jvm.MethodName)) ∈ lw_gd := tin 610 rfl
set_option maxRecDepth 100000 in
theorem q576 : (Jvm.Cond.selects "ArenaNetworkModel" ({ cls := "ArenaNetworkModel", name := "prepare", desc := "()I" } : Jvm.MethodName) ({ cls := "ArenaNetworkModel", name := "prepare", desc := "()I" } : Jvm.MethodName)) ∈ lw_gd := tin 611 rfl
set_option maxRecDepth 100000 in
theorem q577 : (Jvm.Cond.code ({ cls := "ArenaNetworkModel", name := "prepare", desc := "()I" } : Jvm.MethodName) prog_7_method_19_code (3 : Nat) (Option.some Jvm.ClassFile.FieldType.int)) ∈ lw_gd := tin 612 rfl
set_option maxRecDepth 100000 in
theorem q578 : (Jvm.Cond.methodLink "ArenaNetworkModel" (99 : Nat) ({ cls := "ArenaNetworkModel", name := "fault", desc := "(I)I" } : Jvm.MethodName)) ∈ lw_gd := tin 613 rfl
set_option maxRecDepth 100000 in
theorem q580 : (Jvm.Cond.instanceMethod ({ cls := "ArenaNetworkModel", name := "fault", desc := "(I)I" } : Jvm.MethodName)) ∈ lw_gd := tin 615 rfl
set_option maxRecDepth 100000 in
theorem q581 : (Jvm.Cond.code ({ cls := "ArenaNetworkModel", name := "fault", desc := "(I)I" } : Jvm.MethodName) prog_7_method_12_code (2 : Nat) (Option.some Jvm.ClassFile.FieldType.int)) ∈ lw_gd := tin 616 rfl
set_option maxRecDepth 100000 in
theorem q582 : (Jvm.Cond.methodLink "ArenaNetworkModel" (82 : Nat) ({ cls := "ArenaNetworkModel", name := "unmade", desc := "(II)Z" } : Jvm.MethodName)) ∈ lw_gd := tin 617 rfl
set_option maxRecDepth 100000 in
theorem q584 : (Jvm.Cond.instanceMethod ({ cls := "ArenaNetworkModel", name := "unmade", desc := "(II)Z" } : Jvm.MethodName)) ∈ lw_gd := tin 619 rfl
set_option maxRecDepth 100000 in
theorem q585 : (Jvm.Cond.code ({ cls := "ArenaNetworkModel", name := "unmade", desc := "(II)Z" } : Jvm.MethodName) prog_7_method_11_code (3 : Nat) (Option.some Jvm.ClassFile.FieldType.boolean)) ∈ lw_gd := tin 620 rfl
set_option maxRecDepth 100000 in
theorem q586 : (Jvm.Cond.methodLink "ArenaNetworkModel" (86 : Nat) ({ cls := "ArenaNetworkModel", name := "fits", desc := "(I)Z" } : Jvm.MethodName)) ∈ lw_gd := tin 621 rfl
set_option maxRecDepth 100000 in
theorem q588 : (Jvm.Cond.instanceMethod ({ cls := "ArenaNetworkModel", name := "fits", desc := "(I)Z" } : Jvm.MethodName)) ∈ lw_gd := tin 623 rfl
set_option maxRecDepth 100000 in
theorem q589 : (Jvm.Cond.code ({ cls := "ArenaNetworkModel", name := "fits", desc := "(I)Z" } : Jvm.MethodName) prog_7_method_10_code (9 : Nat) (Option.some Jvm.ClassFile.FieldType.boolean)) ∈ lw_gd := tin 624 rfl
set_option maxRecDepth 100000 in
theorem q590 : (Jvm.Cond.methodLink "ArenaNetworkModel" (102 : Nat) ({ cls := "ArenaNetworkModel", name := "placed", desc := "(I)I" } : Jvm.MethodName)) ∈ lw_gd := tin 625 rfl
set_option maxRecDepth 100000 in
theorem q591 : (Jvm.Cond.methodLink "ArenaNetworkModel" (105 : Nat) ({ cls := "ArenaNetworkModel", name := "apart", desc := "(III)Z" } : Jvm.MethodName)) ∈ lw_gd := tin 626 rfl
set_option maxRecDepth 100000 in
theorem q593 : (Jvm.Cond.instanceMethod ({ cls := "ArenaNetworkModel", name := "apart", desc := "(III)Z" } : Jvm.MethodName)) ∈ lw_gd := tin 628 rfl
set_option maxRecDepth 100000 in
theorem q594 : (Jvm.Cond.code ({ cls := "ArenaNetworkModel", name := "apart", desc := "(III)Z" } : Jvm.MethodName) prog_7_method_17_code (7 : Nat) (Option.some Jvm.ClassFile.FieldType.boolean)) ∈ lw_gd := tin 629 rfl
set_option maxRecDepth 100000 in
theorem q595 : (Jvm.Cond.methodLink "ArenaNetworkModel" (89 : Nat) ({ cls := "ArenaNetworkModel", name := "begin", desc := "(I)I" } : Jvm.MethodName)) ∈ lw_gd := tin 630 rfl
set_option maxRecDepth 100000 in
theorem q597 : (Jvm.Cond.instanceMethod ({ cls := "ArenaNetworkModel", name := "begin", desc := "(I)I" } : Jvm.MethodName)) ∈ lw_gd := tin 632 rfl
set_option maxRecDepth 100000 in
theorem q598 : (Jvm.Cond.code ({ cls := "ArenaNetworkModel", name := "begin", desc := "(I)I" } : Jvm.MethodName) prog_7_method_13_code (2 : Nat) (Option.some Jvm.ClassFile.FieldType.int)) ∈ lw_gd := tin 633 rfl
set_option maxRecDepth 100000 in
theorem q599 : (Jvm.Cond.methodLink "ArenaNetworkModel" (96 : Nat) ({ cls := "ArenaNetworkModel", name := "end", desc := "(I)I" } : Jvm.MethodName)) ∈ lw_gd := tin 634 rfl
set_option maxRecDepth 100000 in
theorem q601 : (Jvm.Cond.instanceMethod ({ cls := "ArenaNetworkModel", name := "end", desc := "(I)I" } : Jvm.MethodName)) ∈ lw_gd := tin 636 rfl
set_option maxRecDepth 100000 in
theorem q602 : (Jvm.Cond.code ({ cls := "ArenaNetworkModel", name := "end", desc := "(I)I" } : Jvm.MethodName) prog_7_method_15_code (4 : Nat) (Option.some Jvm.ClassFile.FieldType.int)) ∈ lw_gd := tin 637 rfl
set_option maxRecDepth 100000 in
theorem q603 : (Jvm.Cond.methodLink "ArenaNetworkModel" (109 : Nat) ({ cls := "ArenaNetworkModel", name := "arena", desc := "()I" } : Jvm.MethodName)) ∈ lw_gd := tin 638 rfl
set_option maxRecDepth 100000 in
theorem q605 : (Jvm.Cond.instanceMethod ({ cls := "ArenaNetworkModel", name := "arena", desc := "()I" } : Jvm.MethodName)) ∈ lw_gd := tin 640 rfl
set_option maxRecDepth 100000 in
theorem q606 : (Jvm.Cond.code ({ cls := "ArenaNetworkModel", name := "arena", desc := "()I" } : Jvm.MethodName) prog_7_method_18_code (3 : Nat) (Option.some Jvm.ClassFile.FieldType.int)) ∈ lw_gd := tin 641 rfl
set_option maxRecDepth 100000 in
theorem q607 : (Jvm.Cond.methodLink "ArenaNetworkLaw" (44 : Nat) ({ cls := "ArenaNetworkModel", name := "reopen", desc := "()I" } : Jvm.MethodName)) ∈ lw_gd := tin 642 rfl
set_option maxRecDepth 100000 in
theorem q608 : (Jvm.Cond.instanceMethod ({ cls := "ArenaNetworkModel", name := "reopen", desc := "()I" } : Jvm.MethodName)) ∈ lw_gd := tin 643 rfl
set_option maxRecDepth 100000 in
theorem q609 : (Jvm.Cond.selects "ArenaNetworkModel" ({ cls := "ArenaNetworkModel", name := "reopen", desc := "()I" } : Jvm.MethodName) ({ cls := "ArenaNetworkModel", name := "reopen", desc := "()I" } : Jvm.MethodName)) ∈ lw_gd := tin 644 rfl
set_option maxRecDepth 100000 in
theorem q610 : (Jvm.Cond.code ({ cls := "ArenaNetworkModel", name := "reopen", desc := "()I" } : Jvm.MethodName) prog_7_method_20_code (1 : Nat) (Option.some Jvm.ClassFile.FieldType.int)) ∈ lw_gd := tin 645 rfl
set_option maxRecDepth 100000 in
theorem q611 : (Jvm.Cond.methodLink "ArenaNetworkLaw" (48 : Nat) ({ cls := "ArenaNetworkModel", name := "start", desc := "()I" } : Jvm.MethodName)) ∈ lw_gd := tin 646 rfl
set_option maxRecDepth 100000 in
theorem q612 : (Jvm.Cond.instanceMethod ({ cls := "ArenaNetworkModel", name := "start", desc := "()I" } : Jvm.MethodName)) ∈ lw_gd := tin 647 rfl
set_option maxRecDepth 100000 in
theorem q613 : (Jvm.Cond.selects "ArenaNetworkModel" ({ cls := "ArenaNetworkModel", name := "start", desc := "()I" } : Jvm.MethodName) ({ cls := "ArenaNetworkModel", name := "start", desc := "()I" } : Jvm.MethodName)) ∈ lw_gd := tin 648 rfl
set_option maxRecDepth 100000 in
theorem q614 : (Jvm.Cond.code ({ cls := "ArenaNetworkModel", name := "start", desc := "()I" } : Jvm.MethodName) prog_7_method_21_code (2 : Nat) (Option.some Jvm.ClassFile.FieldType.int)) ∈ lw_gd := tin 649 rfl
set_option maxRecDepth 100000 in
theorem q615 : (Jvm.Cond.methodLink "ArenaNetworkLaw" (52 : Nat) ({ cls := "ArenaNetworkModel", name := "step", desc := "()I" } : Jvm.MethodName)) ∈ lw_gd := tin 650 rfl
set_option maxRecDepth 100000 in
theorem q616 : (Jvm.Cond.instanceMethod ({ cls := "ArenaNetworkModel", name := "step", desc := "()I" } : Jvm.MethodName)) ∈ lw_gd := tin 651 rfl
set_option maxRecDepth 100000 in
theorem q617 : (Jvm.Cond.selects "ArenaNetworkModel" ({ cls := "ArenaNetworkModel", name := "step", desc := "()I" } : Jvm.MethodName) ({ cls := "ArenaNetworkModel", name := "step", desc := "()I" } : Jvm.MethodName)) ∈ lw_gd := tin 652 rfl
set_option maxRecDepth 100000 in
theorem q618 : (Jvm.Cond.code ({ cls := "ArenaNetworkModel", name := "step", desc := "()I" } : Jvm.MethodName) prog_7_method_28_code (3 : Nat) (Option.some Jvm.ClassFile.FieldType.int)) ∈ lw_gd := tin 653 rfl
set_option maxRecDepth 100000 in
theorem q619 : (Jvm.Cond.methodLink "ArenaNetworkModel" (134 : Nat) ({ cls := "ArenaNetworkModel", name := "made", desc := "(II)I" } : Jvm.MethodName)) ∈ lw_gd := tin 654 rfl
set_option maxRecDepth 100000 in
theorem q621 : (Jvm.Cond.instanceMethod ({ cls := "ArenaNetworkModel", name := "made", desc := "(II)I" } : Jvm.MethodName)) ∈ lw_gd := tin 656 rfl
set_option maxRecDepth 100000 in
theorem q622 : (Jvm.Cond.code ({ cls := "ArenaNetworkModel", name := "made", desc := "(II)I" } : Jvm.MethodName) prog_7_method_27_code (10 : Nat) (Option.some Jvm.ClassFile.FieldType.int)) ∈ lw_gd := tin 657 rfl
set_option maxRecDepth 100000 in
theorem q623 : (Jvm.Cond.methodLink "ArenaNetworkModel" (121 : Nat) ({ cls := "ArenaNetworkModel", name := "difference", desc := "(II)I" } : Jvm.MethodName)) ∈ lw_gd := tin 658 rfl
set_option maxRecDepth 100000 in
theorem q625 : (Jvm.Cond.instanceMethod ({ cls := "ArenaNetworkModel", name := "difference", desc := "(II)I" } : Jvm.MethodName)) ∈ lw_gd := tin 660 rfl
set_option maxRecDepth 100000 in
theorem q626 : (Jvm.Cond.code ({ cls := "ArenaNetworkModel", name := "difference", desc := "(II)I" } : Jvm.MethodName) prog_7_method_25_code (3 : Nat) (Option.some Jvm.ClassFile.FieldType.int)) ∈ lw_gd := tin 661 rfl
set_option maxRecDepth 100000 in
theorem q627 : (Jvm.Cond.methodLink "ArenaNetworkModel" (124 : Nat) ({ cls := "ArenaNetworkModel", name := "scaling", desc := "(II)I" } : Jvm.MethodName)) ∈ lw_gd := tin 662 rfl
set_option maxRecDepth 100000 in
theorem q629 : (Jvm.Cond.instanceMethod ({ cls := "ArenaNetworkModel", name := "scaling", desc := "(II)I" } : Jvm.MethodName)) ∈ lw_gd := tin 664 rfl
set_option maxRecDepth 100000 in
theorem q630 : (Jvm.Cond.code ({ cls := "ArenaNetworkModel", name := "scaling", desc := "(II)I" } : Jvm.MethodName) prog_7_method_23_code (5 : Nat) (Option.some Jvm.ClassFile.FieldType.int)) ∈ lw_gd := tin 665 rfl
set_option maxRecDepth 100000 in
theorem q631 : (Jvm.Cond.constantLong "ArenaNetworkModel" (115 : Nat) (2147483648 : Int64)) ∈ lw_gd := tin 666 rfl
set_option maxRecDepth 100000 in
theorem q632 : (Jvm.Cond.methodLink "ArenaNetworkModel" (117 : Nat) ({ cls := "ArenaNetworkModel", name := "rounded", desc := "(JJ)J" } : Jvm.MethodName)) ∈ lw_gd := tin 667 rfl
set_option maxRecDepth 100000 in
theorem q634 : (Jvm.Cond.instanceMethod ({ cls := "ArenaNetworkModel", name := "rounded", desc := "(JJ)J" } : Jvm.MethodName)) ∈ lw_gd := tin 669 rfl
set_option maxRecDepth 100000 in
theorem q635 : (Jvm.Cond.code ({ cls := "ArenaNetworkModel", name := "rounded", desc := "(JJ)J" } : Jvm.MethodName) prog_7_method_22_code (9 : Nat) (Option.some Jvm.ClassFile.FieldType.long)) ∈ lw_gd := tin 670 rfl
set_option maxRecDepth 100000 in
theorem q636 : (Jvm.Cond.constantLong "ArenaNetworkModel" (113 : Nat) (2 : Int64)) ∈ lw_gd := tin 671 rfl
set_option maxRecDepth 100000 in
theorem q637 : (Jvm.Cond.methodLink "ArenaNetworkModel" (127 : Nat) ({ cls := "ArenaNetworkModel", name := "clamped", desc := "(I)I" } : Jvm.MethodName)) ∈ lw_gd := tin 672 rfl
set_option maxRecDepth 100000 in
theorem q639 : (Jvm.Cond.instanceMethod ({ cls := "ArenaNetworkModel", name := "clamped", desc := "(I)I" } : Jvm.MethodName)) ∈ lw_gd := tin 674 rfl
set_option maxRecDepth 100000 in
theorem q640 : (Jvm.Cond.code ({ cls := "ArenaNetworkModel", name := "clamped", desc := "(I)I" } : Jvm.MethodName) prog_7_method_24_code (2 : Nat) (Option.some Jvm.ClassFile.FieldType.int)) ∈ lw_gd := tin 675 rfl
set_option maxRecDepth 100000 in
theorem q641 : (Jvm.Cond.methodLink "ArenaNetworkModel" (130 : Nat) ({ cls := "ArenaNetworkModel", name := "window", desc := "(IIIZ)I" } : Jvm.MethodName)) ∈ lw_gd := tin 676 rfl
set_option maxRecDepth 100000 in
theorem q643 : (Jvm.Cond.instanceMethod ({ cls := "ArenaNetworkModel", name := "window", desc := "(IIIZ)I" } : Jvm.MethodName)) ∈ lw_gd := tin 678 rfl
set_option maxRecDepth 100000 in
theorem q644 : (Jvm.Cond.code ({ cls := "ArenaNetworkModel", name := "window", desc := "(IIIZ)I" } : Jvm.MethodName) prog_7_method_26_code (9 : Nat) (Option.some Jvm.ClassFile.FieldType.int)) ∈ lw_gd := tin 679 rfl
set_option maxRecDepth 100000 in
theorem q645 : (Jvm.Cond.methodLink "ArenaNetworkLaw" (56 : Nat) ({ cls := "ArenaNetworkModel", name := "finish", desc := "()I" } : Jvm.MethodName)) ∈ lw_gd := tin 680 rfl
set_option maxRecDepth 100000 in
theorem q646 : (Jvm.Cond.instanceMethod ({ cls := "ArenaNetworkModel", name := "finish", desc := "()I" } : Jvm.MethodName)) ∈ lw_gd := tin 681 rfl
set_option maxRecDepth 100000 in
theorem q647 : (Jvm.Cond.selects "ArenaNetworkModel" ({ cls := "ArenaNetworkModel", name := "finish", desc := "()I" } : Jvm.MethodName) ({ cls := "ArenaNetworkModel", name := "finish", desc := "()I" } : Jvm.MethodName)) ∈ lw_gd := tin 682 rfl
set_option maxRecDepth 100000 in
theorem q648 : (Jvm.Cond.code ({ cls := "ArenaNetworkModel", name := "finish", desc := "()I" } : Jvm.MethodName) prog_7_method_29_code (2 : Nat) (Option.some Jvm.ClassFile.FieldType.int)) ∈ lw_gd := tin 683 rfl
set_option maxRecDepth 100000 in
theorem q649 : (Jvm.Cond.methodLink "ArenaNetworkModel" (137 : Nat) ({ cls := "ArenaNetworkModel", name := "step", desc := "()I" } : Jvm.MethodName)) ∈ lw_gd := tin 684 rfl
set_option maxRecDepth 100000 in
theorem q650 : (Jvm.Cond.methodLink "ArenaNetworkLaw" (61 : Nat) ({ cls := "ArenaNetworkModel", name := "cell", desc := "(II)I" } : Jvm.MethodName)) ∈ lw_gd := tin 685 rfl
set_option maxRecDepth 100000 in
theorem q651 : (Jvm.Cond.instanceMethod ({ cls := "ArenaNetworkModel", name := "cell", desc := "(II)I" } : Jvm.MethodName)) ∈ lw_gd := tin 686 rfl
set_option maxRecDepth 100000 in
theorem q652 : (Jvm.Cond.selects "ArenaNetworkModel" ({ cls := "ArenaNetworkModel", name := "cell", desc := "(II)I" } : Jvm.MethodName) ({ cls := "ArenaNetworkModel", name := "cell", desc := "(II)I" } : Jvm.MethodName)) ∈ lw_gd := tin 687 rfl
set_option maxRecDepth 100000 in
theorem q653 : (Jvm.Cond.code ({ cls := "ArenaNetworkModel", name := "cell", desc := "(II)I" } : Jvm.MethodName) prog_7_method_30_code (3 : Nat) (Option.some Jvm.ClassFile.FieldType.int)) ∈ lw_gd := tin 688 rfl
set_option maxRecDepth 100000 in
theorem q654 : (Jvm.Cond.methodLink "ArenaNetworkLaw" (66 : Nat) ({ cls := "ArenaNetworkModel", name := "offset", desc := "(I)I" } : Jvm.MethodName)) ∈ lw_gd := tin 689 rfl
set_option maxRecDepth 100000 in
theorem q655 : (Jvm.Cond.instanceMethod ({ cls := "ArenaNetworkModel", name := "offset", desc := "(I)I" } : Jvm.MethodName)) ∈ lw_gd := tin 690 rfl
set_option maxRecDepth 100000 in
theorem q656 : (Jvm.Cond.selects "ArenaNetworkModel" ({ cls := "ArenaNetworkModel", name := "offset", desc := "(I)I" } : Jvm.MethodName) ({ cls := "ArenaNetworkModel", name := "offset", desc := "(I)I" } : Jvm.MethodName)) ∈ lw_gd := tin 691 rfl
set_option maxRecDepth 100000 in
theorem q657 : (Jvm.Cond.code ({ cls := "ArenaNetworkModel", name := "offset", desc := "(I)I" } : Jvm.MethodName) prog_7_method_31_code (2 : Nat) (Option.some Jvm.ClassFile.FieldType.int)) ∈ lw_gd := tin 692 rfl
set_option maxRecDepth 100000 in
theorem q658 : (Jvm.Cond.methodLink "ArenaNetworkLaw" (70 : Nat) ({ cls := "ArenaNetworkModel", name := "life", desc := "(IZ)I" } : Jvm.MethodName)) ∈ lw_gd := tin 693 rfl
set_option maxRecDepth 100000 in
theorem q659 : (Jvm.Cond.instanceMethod ({ cls := "ArenaNetworkModel", name := "life", desc := "(IZ)I" } : Jvm.MethodName)) ∈ lw_gd := tin 694 rfl
set_option maxRecDepth 100000 in
theorem q660 : (Jvm.Cond.selects "ArenaNetworkModel" ({ cls := "ArenaNetworkModel", name := "life", desc := "(IZ)I" } : Jvm.MethodName) ({ cls := "ArenaNetworkModel", name := "life", desc := "(IZ)I" } : Jvm.MethodName)) ∈ lw_gd := tin 695 rfl
set_option maxRecDepth 100000 in
theorem q661 : (Jvm.Cond.code ({ cls := "ArenaNetworkModel", name := "life", desc := "(IZ)I" } : Jvm.MethodName) prog_7_method_32_code (3 : Nat) (Option.some Jvm.ClassFile.FieldType.int)) ∈ lw_gd := tin 696 rfl
set_option maxRecDepth 100000 in
theorem q662 : (Jvm.Cond.methodLink "ArenaNetworkLaw" (78 : Nat) ({ cls := "ArenaNetworkModel", name := "scaled", desc := "(II)I" } : Jvm.MethodName)) ∈ lw_gd := tin 697 rfl
set_option maxRecDepth 100000 in
theorem q663 : (Jvm.Cond.instanceMethod ({ cls := "ArenaNetworkModel", name := "scaled", desc := "(II)I" } : Jvm.MethodName)) ∈ lw_gd := tin 698 rfl
set_option maxRecDepth 100000 in
theorem q664 : (Jvm.Cond.selects "ArenaNetworkModel" ({ cls := "ArenaNetworkModel", name := "scaled", desc := "(II)I" } : Jvm.MethodName) ({ cls := "ArenaNetworkModel", name := "scaled", desc := "(II)I" } : Jvm.MethodName)) ∈ lw_gd := tin 699 rfl
set_option maxRecDepth 100000 in
theorem q665 : (Jvm.Cond.code ({ cls := "ArenaNetworkModel", name := "scaled", desc := "(II)I" } : Jvm.MethodName) prog_7_method_33_code (3 : Nat) (Option.some Jvm.ClassFile.FieldType.int)) ∈ lw_gd := tin 700 rfl
set_option maxRecDepth 100000 in
theorem q666 : (Jvm.Cond.constant "ArenaNetworkModel" (140 : Nat) (-16777216 : Int32)) ∈ lw_gd := tin 701 rfl
set_option maxRecDepth 100000 in
theorem q667 : (Jvm.Cond.constant "ArenaNetworkModel" (141 : Nat) (16777216 : Int32)) ∈ lw_gd := tin 702 rfl
set_option maxRecDepth 100000 in
theorem q668 : (Jvm.Cond.methodLink "ArenaNetworkLaw" (82 : Nat) ({ cls := "ArenaNetworkModel", name := "count", desc := "(I)I" } : Jvm.MethodName)) ∈ lw_gd := tin 703 rfl
set_option maxRecDepth 100000 in
theorem q669 : (Jvm.Cond.instanceMethod ({ cls := "ArenaNetworkModel", name := "count", desc := "(I)I" } : Jvm.MethodName)) ∈ lw_gd := tin 704 rfl
set_option maxRecDepth 100000 in
theorem q670 : (Jvm.Cond.selects "ArenaNetworkModel" ({ cls := "ArenaNetworkModel", name := "count", desc := "(I)I" } : Jvm.MethodName) ({ cls := "ArenaNetworkModel", name := "count", desc := "(I)I" } : Jvm.MethodName)) ∈ lw_gd := tin 705 rfl
set_option maxRecDepth 100000 in
theorem q671 : (Jvm.Cond.code ({ cls := "ArenaNetworkModel", name := "count", desc := "(I)I" } : Jvm.MethodName) prog_7_method_34_code (4 : Nat) (Option.some Jvm.ClassFile.FieldType.int)) ∈ lw_gd := tin 706 rfl
set_option maxRecDepth 100000 in
theorem q675 : (Jvm.Cond.selects "[Ljava/lang/Object;" ({ cls := "java/lang/Object", name := "getClass", desc := "()Ljava/lang/Class;" } : Jvm.MethodName) ({ cls := "java/lang/Object", name := "getClass", desc := "()Ljava/lang/Class;" } : Jvm.MethodName)) ∈ lw_gd := tin 710 rfl
theorem p0 : Cond.selects "java/util/ArrayList" ⟨"java/util/ArrayList", "add", "(Ljava/lang/Object;[Ljava/lang/Object;I)V"⟩ ⟨"java/util/ArrayList", "add", "(Ljava/lang/Object;[Ljava/lang/Object;I)V"⟩ ∈ lw_gd := tin 0 rfl
theorem p1 : Cond.selects "java/util/ArrayList" ⟨"java/util/ArrayList", "grow", "()[Ljava/lang/Object;"⟩ ⟨"java/util/ArrayList", "grow", "()[Ljava/lang/Object;"⟩ ∈ lw_gd := tin 1 rfl
theorem p2 : Cond.selects "java/util/ArrayList" ⟨"java/util/ArrayList", "grow", "(I)[Ljava/lang/Object;"⟩ ⟨"java/util/ArrayList", "grow", "(I)[Ljava/lang/Object;"⟩ ∈ lw_gd := tin 2 rfl
theorem p3 : Cond.selects "ArenaNetwork" ⟨"ArenaNetwork", "tensorAt", "(I)LArenaNetwork$Tensor;"⟩ ⟨"ArenaNetwork", "tensorAt", "(I)LArenaNetwork$Tensor;"⟩ ∈ lw_gd := tin 3 rfl
theorem p4 : Cond.selects "ArenaNetwork" ⟨"ArenaNetwork", "firstFault", "()I"⟩ ⟨"ArenaNetwork", "firstFault", "()I"⟩ ∈ lw_gd := tin 4 rfl
theorem p5 : Cond.selects "ArenaNetwork" ⟨"ArenaNetwork", "faultOf", "(I)I"⟩ ⟨"ArenaNetwork", "faultOf", "(I)I"⟩ ∈ lw_gd := tin 5 rfl
theorem p6 : Cond.selects "ArenaNetwork" ⟨"ArenaNetwork", "isUnmadeBefore", "(ILArenaNetwork$Tensor;)Z"⟩ ⟨"ArenaNetwork", "isUnmadeBefore", "(ILArenaNetwork$Tensor;)Z"⟩ ∈ lw_gd := tin 6 rfl
theorem p7 : Cond.selects "ArenaNetwork" ⟨"ArenaNetwork", "giveLives", "()V"⟩ ⟨"ArenaNetwork", "giveLives", "()V"⟩ ∈ lw_gd := tin 7 rfl
theorem p8 : Cond.selects "ArenaNetwork$Arena" ⟨"ArenaNetwork$Arena", "put", "(LArenaNetwork$Tensor;)V"⟩ ⟨"ArenaNetwork$Arena", "put", "(LArenaNetwork$Tensor;)V"⟩ ∈ lw_gd := tin 8 rfl
theorem p9 : Cond.selects "ArenaNetwork$Arena" ⟨"ArenaNetwork$Arena", "leastPlace", "(LArenaNetwork$Tensor;)I"⟩ ⟨"ArenaNetwork$Arena", "leastPlace", "(LArenaNetwork$Tensor;)I"⟩ ∈ lw_gd := tin 9 rfl
theorem p10 : Cond.selects "ArenaNetwork$Arena" ⟨"ArenaNetwork$Arena", "isFree", "(LArenaNetwork$Tensor;I)Z"⟩ ⟨"ArenaNetwork$Arena", "isFree", "(LArenaNetwork$Tensor;I)Z"⟩ ∈ lw_gd := tin 10 rfl
theorem p11 : Cond.selects "ArenaNetwork" ⟨"ArenaNetwork", "doNext", "()V"⟩ ⟨"ArenaNetwork", "doNext", "()V"⟩ ∈ lw_gd := tin 11 rfl
theorem p12 : Cond.selects "ArenaNetwork$Operator" ⟨"ArenaNetwork$Operator", "resultCell", "(ILArenaNetwork$Scale;)I"⟩ ⟨"ArenaNetwork$Operator", "resultCell", "(ILArenaNetwork$Scale;)I"⟩ ∈ lw_gd := tin 12 rfl
theorem p13 : Cond.selects "ArenaNetwork$Operator" ⟨"ArenaNetwork$Operator", "denseSum", "(I)I"⟩ ⟨"ArenaNetwork$Operator", "denseSum", "(I)I"⟩ ∈ lw_gd := tin 13 rfl
theorem p14 : Cond.selects "ArenaNetwork$Operator" ⟨"ArenaNetwork$Operator", "clampedResult", "(I)I"⟩ ⟨"ArenaNetwork$Operator", "clampedResult", "(I)I"⟩ ∈ lw_gd := tin 14 rfl
theorem p15 : Cond.selects "ArenaNetwork$Operator" ⟨"ArenaNetwork$Operator", "greatestOfGroup", "(I)I"⟩ ⟨"ArenaNetwork$Operator", "greatestOfGroup", "(I)I"⟩ ∈ lw_gd := tin 15 rfl
theorem p16 : Cond.selects "ArenaNetwork$Operator" ⟨"ArenaNetwork$Operator", "sumOfGroup", "(I)I"⟩ ⟨"ArenaNetwork$Operator", "sumOfGroup", "(I)I"⟩ ∈ lw_gd := tin 16 rfl
theorem p17 : Cond.selects "ArenaNetwork" ⟨"ArenaNetwork", "livingTensorAt", "(I)LArenaNetwork$Tensor;"⟩ ⟨"ArenaNetwork", "livingTensorAt", "(I)LArenaNetwork$Tensor;"⟩ ∈ lw_gd := tin 17 rfl
theorem p18 : Cond.selects "ArenaNetworkModel" ⟨"ArenaNetworkModel", "noByte", "(I)Z"⟩ ⟨"ArenaNetworkModel", "noByte", "(I)Z"⟩ ∈ lw_gd := tin 18 rfl
theorem p19 : Cond.selects "ArenaNetworkModel" ⟨"ArenaNetworkModel", "noTensor", "(I)Z"⟩ ⟨"ArenaNetworkModel", "noTensor", "(I)Z"⟩ ∈ lw_gd := tin 19 rfl
theorem p20 : Cond.selects "ArenaNetworkModel" ⟨"ArenaNetworkModel", "lives", "(I)Z"⟩ ⟨"ArenaNetworkModel", "lives", "(I)Z"⟩ ∈ lw_gd := tin 20 rfl
theorem p21 : Cond.selects "ArenaNetworkModel" ⟨"ArenaNetworkModel", "maker", "(II)I"⟩ ⟨"ArenaNetworkModel", "maker", "(II)I"⟩ ∈ lw_gd := tin 21 rfl
theorem p22 : Cond.selects "ArenaNetworkModel" ⟨"ArenaNetworkModel", "fault", "(I)I"⟩ ⟨"ArenaNetworkModel", "fault", "(I)I"⟩ ∈ lw_gd := tin 22 rfl
theorem p23 : Cond.selects "ArenaNetworkModel" ⟨"ArenaNetworkModel", "unmade", "(II)Z"⟩ ⟨"ArenaNetworkModel", "unmade", "(II)Z"⟩ ∈ lw_gd := tin 23 rfl
theorem p24 : Cond.selects "ArenaNetworkModel" ⟨"ArenaNetworkModel", "fits", "(I)Z"⟩ ⟨"ArenaNetworkModel", "fits", "(I)Z"⟩ ∈ lw_gd := tin 24 rfl
theorem p25 : Cond.selects "ArenaNetworkModel" ⟨"ArenaNetworkModel", "apart", "(III)Z"⟩ ⟨"ArenaNetworkModel", "apart", "(III)Z"⟩ ∈ lw_gd := tin 25 rfl
theorem p26 : Cond.selects "ArenaNetworkModel" ⟨"ArenaNetworkModel", "begin", "(I)I"⟩ ⟨"ArenaNetworkModel", "begin", "(I)I"⟩ ∈ lw_gd := tin 26 rfl
theorem p27 : Cond.selects "ArenaNetworkModel" ⟨"ArenaNetworkModel", "end", "(I)I"⟩ ⟨"ArenaNetworkModel", "end", "(I)I"⟩ ∈ lw_gd := tin 27 rfl
theorem p28 : Cond.selects "ArenaNetworkModel" ⟨"ArenaNetworkModel", "arena", "()I"⟩ ⟨"ArenaNetworkModel", "arena", "()I"⟩ ∈ lw_gd := tin 28 rfl
theorem p29 : Cond.selects "ArenaNetworkModel" ⟨"ArenaNetworkModel", "made", "(II)I"⟩ ⟨"ArenaNetworkModel", "made", "(II)I"⟩ ∈ lw_gd := tin 29 rfl
theorem p30 : Cond.selects "ArenaNetworkModel" ⟨"ArenaNetworkModel", "difference", "(II)I"⟩ ⟨"ArenaNetworkModel", "difference", "(II)I"⟩ ∈ lw_gd := tin 30 rfl
theorem p31 : Cond.selects "ArenaNetworkModel" ⟨"ArenaNetworkModel", "scaling", "(II)I"⟩ ⟨"ArenaNetworkModel", "scaling", "(II)I"⟩ ∈ lw_gd := tin 31 rfl
theorem p32 : Cond.selects "ArenaNetworkModel" ⟨"ArenaNetworkModel", "rounded", "(JJ)J"⟩ ⟨"ArenaNetworkModel", "rounded", "(JJ)J"⟩ ∈ lw_gd := tin 32 rfl
theorem p33 : Cond.selects "ArenaNetworkModel" ⟨"ArenaNetworkModel", "clamped", "(I)I"⟩ ⟨"ArenaNetworkModel", "clamped", "(I)I"⟩ ∈ lw_gd := tin 33 rfl
theorem p34 : Cond.selects "ArenaNetworkModel" ⟨"ArenaNetworkModel", "window", "(IIIZ)I"⟩ ⟨"ArenaNetworkModel", "window", "(IIIZ)I"⟩ ∈ lw_gd := tin 34 rfl
theorem cAs_of {C : xC} {cc : ByteArray} {nL : Nat} {own : String} (hC : okC C cc nL own lw_gd) : cAs C.2.2.2.2.1 := by
  have hK := hC.K
  intro t ci q E h1 h2 h3 comp c0 h4 h5
  have hca : ∀ x : String, Cond.castable x "java/lang/Object" ∈ lw_ex → q.1 = x → E = "java/lang/Object" → C.2.2.2.2.1.vm.assignable c0 comp = true := by
    intro x hx e1 e2
    subst e1 e2
    obtain ⟨d0, t0, f1, f2, f3⟩ := Cond.castable_spec (va_Nw.use (A := #[]) rfl (hK.2.2 _ hx))
    cases h4.symm.trans f2
    cases h5.symm.trans f1
    exact f3
  unfold aOk at h1
  simp only [Bool.or_eq_true, Bool.and_eq_true, beq_iff_eq] at h1
  rcases h1 with ⟨rfl, rfl | rfl⟩ | ⟨rfl, rfl⟩
  · cases h3
    exact hca _ x682 rfl (by cases h2; rfl)
  · cases h3
    exact hca _ x681 rfl (by cases h2; rfl)
  · cases h3
    cases h2
    have hcl := (hK.1.1 3 _ rfl).2
    cases h4.symm.trans h5
    have e := Option.some.inj (h4.symm.trans hcl.1)
    rw [e]
    exact va_assign hcl

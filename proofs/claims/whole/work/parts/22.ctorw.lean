/-! words of the tables, by their places; what fields and calls link to (written by wip/whole/gen.py) -/
theorem q_168 : (Jvm.Cond.instanceMethod ({ cls := "java/lang/Object", name := "<init>", desc := "()V" } : Jvm.MethodName)) ∈ lw_G := gd (i := 168) (by decide +kernel) (by decide +kernel)
theorem q_169 : (Jvm.Cond.code ({ cls := "java/lang/Object", name := "<init>", desc := "()V" } : Jvm.MethodName) object_method_1_code (1 : Nat) (Option.none : Option Jvm.ClassFile.FieldType)) ∈ lw_G := gd (i := 169) (by decide +kernel) (by decide +kernel)
theorem q_194 : (Jvm.Cond.arrayClass Jvm.ClassFile.FieldType.long) ∈ lw_G := gd (i := 194) (by decide +kernel) (by decide +kernel)
theorem q_241 : (Jvm.Cond.arrayClass Jvm.ClassFile.FieldType.byte) ∈ lw_G := gd (i := 241) (by decide +kernel) (by decide +kernel)
theorem q_265 : (Jvm.Cond.arrayClass Jvm.ClassFile.FieldType.double) ∈ lw_G := gd (i := 265) (by decide +kernel) (by decide +kernel)
theorem q_485 : (Jvm.Cond.arrayClass Jvm.ClassFile.FieldType.int) ∈ lw_G := gd (i := 485) (by decide +kernel) (by decide +kernel)
theorem q_1399 : (Jvm.Cond.methodLink "VectorPipesModel" (1 : Nat) ({ cls := "java/lang/Object", name := "<init>", desc := "()V" } : Jvm.MethodName)) ∈ lw_G := gd (i := 1399) (by decide +kernel) (by decide +kernel)

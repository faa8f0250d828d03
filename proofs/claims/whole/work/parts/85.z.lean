theorem LW.use {p : Program} {l : Launch} {e : Env} {R : Room} {s : State} {mm : MethodId} {args : Array Value} {below : List Frame} {meth : Method} {c : Code} {X : Cx} {k : Mt} {Q : State → Prop} {pc : Nat} {L : List (Nat × Value)} {st : List Value} {h m ot : AH} {cells slots : Nat} {H : Heap} {locs : List Loc} {ls : Array Slot} (w : LW X k p l e R s mm args below meth c Q pc L st h m ot cells slots) (hS : va_S (xAr X) s.heap H locs) (hR : R3 X h m ot H) (hl : lv_has ls k.2.2.1 L) : W p l e R s mm args below meth c H locs cells slots Q (F0 mm pc ls st) := w H locs ls hS hR hl
theorem m_716 : (Jvm.Cond.codeWith ({ cls := "CoreHouseLaw", name := "assemble", desc := "(LCoreHouse;[J)I" } : Jvm.MethodName) method_3_code (3 : Nat) (Option.some Jvm.ClassFile.FieldType.int) [((0 : Nat), (8 : Nat), (11 : Nat), (13 : Nat))]) ∈ gw := mem_tb (List.mem_append_right _ (List.mem_append_right _ (List.mem_append_left _ (List.mem_of_getElem? (l := tables_1_3) (i := 113) rfl)))) rfl
theorem m_123 : (Jvm.Cond.initialized "CoreHouseLaw") ∈ gw := mem_tb (List.mem_append_left _ (List.mem_of_getElem? (l := tables_1_1) (i := 0) rfl)) rfl
theorem m_715 : (Jvm.Cond.static ({ cls := "CoreHouseLaw", name := "assemble", desc := "(LCoreHouse;[J)I" } : Jvm.MethodName)) ∈ gw := mem_tb (List.mem_append_right _ (List.mem_append_right _ (List.mem_append_left _ (List.mem_of_getElem? (l := tables_1_3) (i := 112) rfl)))) rfl
theorem m_718 : (Jvm.Cond.methodLink "CoreHouseLaw" (7 : Nat) ({ cls := "CoreHouse", name := "assemble", desc := "()I" } : Jvm.MethodName)) ∈ gw := mem_tb (List.mem_append_right _ (List.mem_append_right _ (List.mem_append_left _ (List.mem_of_getElem? (l := tables_1_3) (i := 115) rfl)))) rfl
theorem m_719 : (Jvm.Cond.instanceMethod ({ cls := "CoreHouse", name := "assemble", desc := "()I" } : Jvm.MethodName)) ∈ gw := mem_tb (List.mem_append_right _ (List.mem_append_right _ (List.mem_append_left _ (List.mem_of_getElem? (l := tables_1_3) (i := 116) rfl)))) rfl
theorem m_720 : (Jvm.Cond.selects "CoreHouse" ({ cls := "CoreHouse", name := "assemble", desc := "()I" } : Jvm.MethodName) ({ cls := "CoreHouse", name := "assemble", desc := "()I" } : Jvm.MethodName)) ∈ gw := mem_tb (List.mem_append_right _ (List.mem_append_right _ (List.mem_append_left _ (List.mem_of_getElem? (l := tables_1_3) (i := 117) rfl)))) rfl
theorem m_717 : (Jvm.Cond.classLink "CoreHouseLaw" (13 : Nat) "java/lang/IllegalArgumentException") ∈ gw := mem_tb (List.mem_append_right _ (List.mem_append_right _ (List.mem_append_left _ (List.mem_of_getElem? (l := tables_1_3) (i := 114) rfl)))) rfl
theorem m_985 : (Jvm.Cond.codeWith ({ cls := "CoreHouseLaw", name := "step", desc := "(LCoreHouse;I[J)I" } : Jvm.MethodName) method_4_code (4 : Nat) (Option.some Jvm.ClassFile.FieldType.int) [((0 : Nat), (9 : Nat), (12 : Nat), (19 : Nat))]) ∈ gw := mem_tb (List.mem_append_right _ (List.mem_append_right _ (List.mem_append_right _ (List.mem_append_left _ (List.mem_of_getElem? (l := tables_1_4) (i := 142) rfl))))) rfl
theorem m_984 : (Jvm.Cond.static ({ cls := "CoreHouseLaw", name := "step", desc := "(LCoreHouse;I[J)I" } : Jvm.MethodName)) ∈ gw := mem_tb (List.mem_append_right _ (List.mem_append_right _ (List.mem_append_right _ (List.mem_append_left _ (List.mem_of_getElem? (l := tables_1_4) (i := 141) rfl))))) rfl
theorem m_987 : (Jvm.Cond.methodLink "CoreHouseLaw" (15 : Nat) ({ cls := "CoreHouse", name := "step", desc := "(I)I" } : Jvm.MethodName)) ∈ gw := mem_tb (List.mem_append_right _ (List.mem_append_right _ (List.mem_append_right _ (List.mem_append_left _ (List.mem_of_getElem? (l := tables_1_4) (i := 144) rfl))))) rfl
theorem m_988 : (Jvm.Cond.instanceMethod ({ cls := "CoreHouse", name := "step", desc := "(I)I" } : Jvm.MethodName)) ∈ gw := mem_tb (List.mem_append_right _ (List.mem_append_right _ (List.mem_append_right _ (List.mem_append_left _ (List.mem_of_getElem? (l := tables_1_4) (i := 145) rfl))))) rfl
theorem m_989 : (Jvm.Cond.selects "CoreHouse" ({ cls := "CoreHouse", name := "step", desc := "(I)I" } : Jvm.MethodName) ({ cls := "CoreHouse", name := "step", desc := "(I)I" } : Jvm.MethodName)) ∈ gw := mem_tb (List.mem_append_right _ (List.mem_append_right _ (List.mem_append_right _ (List.mem_append_left _ (List.mem_of_getElem? (l := tables_1_4) (i := 146) rfl))))) rfl
theorem m_986 : (Jvm.Cond.classLink "CoreHouseLaw" (19 : Nat) "java/lang/IndexOutOfBoundsException") ∈ gw := mem_tb (List.mem_append_right _ (List.mem_append_right _ (List.mem_append_right _ (List.mem_append_left _ (List.mem_of_getElem? (l := tables_1_4) (i := 143) rfl))))) rfl
theorem m_1146 : (Jvm.Cond.codeWith ({ cls := "CoreHouseLaw", name := "drain", desc := "(LCoreHouse;I[J)I" } : Jvm.MethodName) method_5_code (4 : Nat) (Option.some Jvm.ClassFile.FieldType.int) [((0 : Nat), (9 : Nat), (12 : Nat), (19 : Nat))]) ∈ gw := mem_tb (List.mem_append_right _ (List.mem_append_right _ (List.mem_append_right _ (List.mem_append_right _ (List.mem_append_left _ (List.mem_of_getElem? (l := tables_1_5) (i := 63) rfl)))))) rfl
theorem m_1145 : (Jvm.Cond.static ({ cls := "CoreHouseLaw", name := "drain", desc := "(LCoreHouse;I[J)I" } : Jvm.MethodName)) ∈ gw := mem_tb (List.mem_append_right _ (List.mem_append_right _ (List.mem_append_right _ (List.mem_append_right _ (List.mem_append_left _ (List.mem_of_getElem? (l := tables_1_5) (i := 62) rfl)))))) rfl
theorem m_1147 : (Jvm.Cond.methodLink "CoreHouseLaw" (21 : Nat) ({ cls := "CoreHouse", name := "drain", desc := "(I)I" } : Jvm.MethodName)) ∈ gw := mem_tb (List.mem_append_right _ (List.mem_append_right _ (List.mem_append_right _ (List.mem_append_right _ (List.mem_append_left _ (List.mem_of_getElem? (l := tables_1_5) (i := 64) rfl)))))) rfl
theorem m_1148 : (Jvm.Cond.instanceMethod ({ cls := "CoreHouse", name := "drain", desc := "(I)I" } : Jvm.MethodName)) ∈ gw := mem_tb (List.mem_append_right _ (List.mem_append_right _ (List.mem_append_right _ (List.mem_append_right _ (List.mem_append_left _ (List.mem_of_getElem? (l := tables_1_5) (i := 65) rfl)))))) rfl
theorem m_1149 : (Jvm.Cond.selects "CoreHouse" ({ cls := "CoreHouse", name := "drain", desc := "(I)I" } : Jvm.MethodName) ({ cls := "CoreHouse", name := "drain", desc := "(I)I" } : Jvm.MethodName)) ∈ gw := mem_tb (List.mem_append_right _ (List.mem_append_right _ (List.mem_append_right _ (List.mem_append_right _ (List.mem_append_left _ (List.mem_of_getElem? (l := tables_1_5) (i := 66) rfl)))))) rfl
theorem m_1163 : (Jvm.Cond.codeWith ({ cls := "CoreHouseLaw", name := "run", desc := "(LCoreHouse;I[J)I" } : Jvm.MethodName) method_6_code (4 : Nat) (Option.some Jvm.ClassFile.FieldType.int) [((0 : Nat), (9 : Nat), (12 : Nat), (13 : Nat))]) ∈ gw := mem_tb (List.mem_append_right _ (List.mem_append_right _ (List.mem_append_right _ (List.mem_append_right _ (List.mem_append_left _ (List.mem_of_getElem? (l := tables_1_5) (i := 80) rfl)))))) rfl
theorem m_1162 : (Jvm.Cond.static ({ cls := "CoreHouseLaw", name := "run", desc := "(LCoreHouse;I[J)I" } : Jvm.MethodName)) ∈ gw := mem_tb (List.mem_append_right _ (List.mem_append_right _ (List.mem_append_right _ (List.mem_append_right _ (List.mem_append_left _ (List.mem_of_getElem? (l := tables_1_5) (i := 79) rfl)))))) rfl
theorem m_1164 : (Jvm.Cond.methodLink "CoreHouseLaw" (24 : Nat) ({ cls := "CoreHouse", name := "run", desc := "(I)I" } : Jvm.MethodName)) ∈ gw := mem_tb (List.mem_append_right _ (List.mem_append_right _ (List.mem_append_right _ (List.mem_append_right _ (List.mem_append_left _ (List.mem_of_getElem? (l := tables_1_5) (i := 81) rfl)))))) rfl
theorem m_1165 : (Jvm.Cond.instanceMethod ({ cls := "CoreHouse", name := "run", desc := "(I)I" } : Jvm.MethodName)) ∈ gw := mem_tb (List.mem_append_right _ (List.mem_append_right _ (List.mem_append_right _ (List.mem_append_right _ (List.mem_append_left _ (List.mem_of_getElem? (l := tables_1_5) (i := 82) rfl)))))) rfl
theorem m_1166 : (Jvm.Cond.selects "CoreHouse" ({ cls := "CoreHouse", name := "run", desc := "(I)I" } : Jvm.MethodName) ({ cls := "CoreHouse", name := "run", desc := "(I)I" } : Jvm.MethodName)) ∈ gw := mem_tb (List.mem_append_right _ (List.mem_append_right _ (List.mem_append_right _ (List.mem_append_right _ (List.mem_append_left _ (List.mem_of_getElem? (l := tables_1_5) (i := 83) rfl)))))) rfl
theorem m_1172 : (Jvm.Cond.codeWith ({ cls := "CoreHouseLaw", name := "play", desc := "(LCoreHouse;[J)I" } : Jvm.MethodName) method_7_code (3 : Nat) (Option.some Jvm.ClassFile.FieldType.int) [((0 : Nat), (8 : Nat), (11 : Nat), (13 : Nat))]) ∈ gw := mem_tb (List.mem_append_right _ (List.mem_append_right _ (List.mem_append_right _ (List.mem_append_right _ (List.mem_append_left _ (List.mem_of_getElem? (l := tables_1_5) (i := 89) rfl)))))) rfl
theorem m_1171 : (Jvm.Cond.static ({ cls := "CoreHouseLaw", name := "play", desc := "(LCoreHouse;[J)I" } : Jvm.MethodName)) ∈ gw := mem_tb (List.mem_append_right _ (List.mem_append_right _ (List.mem_append_right _ (List.mem_append_right _ (List.mem_append_left _ (List.mem_of_getElem? (l := tables_1_5) (i := 88) rfl)))))) rfl
theorem m_1173 : (Jvm.Cond.methodLink "CoreHouseLaw" (27 : Nat) ({ cls := "CoreHouse", name := "play", desc := "()I" } : Jvm.MethodName)) ∈ gw := mem_tb (List.mem_append_right _ (List.mem_append_right _ (List.mem_append_right _ (List.mem_append_right _ (List.mem_append_left _ (List.mem_of_getElem? (l := tables_1_5) (i := 90) rfl)))))) rfl
theorem m_1174 : (Jvm.Cond.instanceMethod ({ cls := "CoreHouse", name := "play", desc := "()I" } : Jvm.MethodName)) ∈ gw := mem_tb (List.mem_append_right _ (List.mem_append_right _ (List.mem_append_right _ (List.mem_append_right _ (List.mem_append_left _ (List.mem_of_getElem? (l := tables_1_5) (i := 91) rfl)))))) rfl
theorem m_1175 : (Jvm.Cond.selects "CoreHouse" ({ cls := "CoreHouse", name := "play", desc := "()I" } : Jvm.MethodName) ({ cls := "CoreHouse", name := "play", desc := "()I" } : Jvm.MethodName)) ∈ gw := mem_tb (List.mem_append_right _ (List.mem_append_right _ (List.mem_append_right _ (List.mem_append_right _ (List.mem_append_left _ (List.mem_of_getElem? (l := tables_1_5) (i := 92) rfl)))))) rfl
theorem m_1201 : (Jvm.Cond.codeWith ({ cls := "CoreHouseLaw", name := "trace", desc := "(LCoreHouse;III[J)I" } : Jvm.MethodName) method_8_code (6 : Nat) (Option.some Jvm.ClassFile.FieldType.int) [((0 : Nat), (12 : Nat), (15 : Nat), (34 : Nat))]) ∈ gw := mem_tb (List.mem_append_right _ (List.mem_append_right _ (List.mem_append_right _ (List.mem_append_right _ (List.mem_append_left _ (List.mem_of_getElem? (l := tables_1_5) (i := 118) rfl)))))) rfl
theorem m_1200 : (Jvm.Cond.static ({ cls := "CoreHouseLaw", name := "trace", desc := "(LCoreHouse;III[J)I" } : Jvm.MethodName)) ∈ gw := mem_tb (List.mem_append_right _ (List.mem_append_right _ (List.mem_append_right _ (List.mem_append_right _ (List.mem_append_left _ (List.mem_of_getElem? (l := tables_1_5) (i := 117) rfl)))))) rfl
theorem m_1203 : (Jvm.Cond.methodLink "CoreHouseLaw" (30 : Nat) ({ cls := "CoreHouse", name := "trace", desc := "(III)I" } : Jvm.MethodName)) ∈ gw := mem_tb (List.mem_append_right _ (List.mem_append_right _ (List.mem_append_right _ (List.mem_append_right _ (List.mem_append_left _ (List.mem_of_getElem? (l := tables_1_5) (i := 120) rfl)))))) rfl
theorem m_1204 : (Jvm.Cond.instanceMethod ({ cls := "CoreHouse", name := "trace", desc := "(III)I" } : Jvm.MethodName)) ∈ gw := mem_tb (List.mem_append_right _ (List.mem_append_right _ (List.mem_append_right _ (List.mem_append_right _ (List.mem_append_left _ (List.mem_of_getElem? (l := tables_1_5) (i := 121) rfl)))))) rfl
theorem m_1205 : (Jvm.Cond.selects "CoreHouse" ({ cls := "CoreHouse", name := "trace", desc := "(III)I" } : Jvm.MethodName) ({ cls := "CoreHouse", name := "trace", desc := "(III)I" } : Jvm.MethodName)) ∈ gw := mem_tb (List.mem_append_right _ (List.mem_append_right _ (List.mem_append_right _ (List.mem_append_right _ (List.mem_append_left _ (List.mem_of_getElem? (l := tables_1_5) (i := 122) rfl)))))) rfl
theorem m_1202 : (Jvm.Cond.classLink "CoreHouseLaw" (34 : Nat) "java/util/NoSuchElementException") ∈ gw := mem_tb (List.mem_append_right _ (List.mem_append_right _ (List.mem_append_right _ (List.mem_append_right _ (List.mem_append_left _ (List.mem_of_getElem? (l := tables_1_5) (i := 119) rfl)))))) rfl
theorem m_1233 : (Jvm.Cond.codeWith ({ cls := "CoreHouseLaw", name := "core", desc := "(LCoreHouse;II[J)I" } : Jvm.MethodName) method_9_code (5 : Nat) (Option.some Jvm.ClassFile.FieldType.int) [((0 : Nat), (10 : Nat), (13 : Nat), (34 : Nat))]) ∈ gw := mem_tb (List.mem_append_right _ (List.mem_append_right _ (List.mem_append_right _ (List.mem_append_right _ (List.mem_append_left _ (List.mem_of_getElem? (l := tables_1_5) (i := 150) rfl)))))) rfl
theorem m_1232 : (Jvm.Cond.static ({ cls := "CoreHouseLaw", name := "core", desc := "(LCoreHouse;II[J)I" } : Jvm.MethodName)) ∈ gw := mem_tb (List.mem_append_right _ (List.mem_append_right _ (List.mem_append_right _ (List.mem_append_right _ (List.mem_append_left _ (List.mem_of_getElem? (l := tables_1_5) (i := 149) rfl)))))) rfl
theorem m_1234 : (Jvm.Cond.methodLink "CoreHouseLaw" (36 : Nat) ({ cls := "CoreHouse", name := "core", desc := "(II)I" } : Jvm.MethodName)) ∈ gw := mem_tb (List.mem_append_right _ (List.mem_append_right _ (List.mem_append_right _ (List.mem_append_right _ (List.mem_append_left _ (List.mem_of_getElem? (l := tables_1_5) (i := 151) rfl)))))) rfl
theorem m_1235 : (Jvm.Cond.instanceMethod ({ cls := "CoreHouse", name := "core", desc := "(II)I" } : Jvm.MethodName)) ∈ gw := mem_tb (List.mem_append_right _ (List.mem_append_right _ (List.mem_append_right _ (List.mem_append_right _ (List.mem_append_left _ (List.mem_of_getElem? (l := tables_1_5) (i := 152) rfl)))))) rfl
theorem m_1236 : (Jvm.Cond.selects "CoreHouse" ({ cls := "CoreHouse", name := "core", desc := "(II)I" } : Jvm.MethodName) ({ cls := "CoreHouse", name := "core", desc := "(II)I" } : Jvm.MethodName)) ∈ gw := mem_tb (List.mem_append_right _ (List.mem_append_right _ (List.mem_append_right _ (List.mem_append_right _ (List.mem_append_left _ (List.mem_of_getElem? (l := tables_1_5) (i := 153) rfl)))))) rfl
theorem m_1249 : (Jvm.Cond.codeWith ({ cls := "CoreHouseLaw", name := "copy", desc := "(LCoreHouse;II[J)I" } : Jvm.MethodName) method_10_code (5 : Nat) (Option.some Jvm.ClassFile.FieldType.int) [((0 : Nat), (10 : Nat), (13 : Nat), (34 : Nat))]) ∈ gw := mem_tb (List.mem_append_right _ (List.mem_append_right _ (List.mem_append_right _ (List.mem_append_right _ (List.mem_append_left _ (List.mem_of_getElem? (l := tables_1_5) (i := 166) rfl)))))) rfl
theorem m_1248 : (Jvm.Cond.static ({ cls := "CoreHouseLaw", name := "copy", desc := "(LCoreHouse;II[J)I" } : Jvm.MethodName)) ∈ gw := mem_tb (List.mem_append_right _ (List.mem_append_right _ (List.mem_append_right _ (List.mem_append_right _ (List.mem_append_left _ (List.mem_of_getElem? (l := tables_1_5) (i := 165) rfl)))))) rfl
theorem m_1250 : (Jvm.Cond.methodLink "CoreHouseLaw" (40 : Nat) ({ cls := "CoreHouse", name := "copy", desc := "(II)I" } : Jvm.MethodName)) ∈ gw := mem_tb (List.mem_append_right _ (List.mem_append_right _ (List.mem_append_right _ (List.mem_append_right _ (List.mem_append_left _ (List.mem_of_getElem? (l := tables_1_5) (i := 167) rfl)))))) rfl
theorem m_1251 : (Jvm.Cond.instanceMethod ({ cls := "CoreHouse", name := "copy", desc := "(II)I" } : Jvm.MethodName)) ∈ gw := mem_tb (List.mem_append_right _ (List.mem_append_right _ (List.mem_append_right _ (List.mem_append_right _ (List.mem_append_left _ (List.mem_of_getElem? (l := tables_1_5) (i := 168) rfl)))))) rfl
theorem m_1252 : (Jvm.Cond.selects "CoreHouse" ({ cls := "CoreHouse", name := "copy", desc := "(II)I" } : Jvm.MethodName) ({ cls := "CoreHouse", name := "copy", desc := "(II)I" } : Jvm.MethodName)) ∈ gw := mem_tb (List.mem_append_right _ (List.mem_append_right _ (List.mem_append_right _ (List.mem_append_right _ (List.mem_append_left _ (List.mem_of_getElem? (l := tables_1_5) (i := 169) rfl)))))) rfl
theorem m_1261 : (Jvm.Cond.codeWith ({ cls := "CoreHouseLaw", name := "home", desc := "(LCoreHouse;II[J)I" } : Jvm.MethodName) method_11_code (5 : Nat) (Option.some Jvm.ClassFile.FieldType.int) [((0 : Nat), (10 : Nat), (13 : Nat), (34 : Nat))]) ∈ gw := mem_tb (List.mem_append_right _ (List.mem_append_right _ (List.mem_append_right _ (List.mem_append_right _ (List.mem_append_left _ (List.mem_of_getElem? (l := tables_1_5) (i := 178) rfl)))))) rfl
theorem m_1260 : (Jvm.Cond.static ({ cls := "CoreHouseLaw", name := "home", desc := "(LCoreHouse;II[J)I" } : Jvm.MethodName)) ∈ gw := mem_tb (List.mem_append_right _ (List.mem_append_right _ (List.mem_append_right _ (List.mem_append_right _ (List.mem_append_left _ (List.mem_of_getElem? (l := tables_1_5) (i := 177) rfl)))))) rfl
theorem m_1262 : (Jvm.Cond.methodLink "CoreHouseLaw" (43 : Nat) ({ cls := "CoreHouse", name := "home", desc := "(II)I" } : Jvm.MethodName)) ∈ gw := mem_tb (List.mem_append_right _ (List.mem_append_right _ (List.mem_append_right _ (List.mem_append_right _ (List.mem_append_left _ (List.mem_of_getElem? (l := tables_1_5) (i := 179) rfl)))))) rfl
theorem m_1263 : (Jvm.Cond.instanceMethod ({ cls := "CoreHouse", name := "home", desc := "(II)I" } : Jvm.MethodName)) ∈ gw := mem_tb (List.mem_append_right _ (List.mem_append_right _ (List.mem_append_right _ (List.mem_append_right _ (List.mem_append_left _ (List.mem_of_getElem? (l := tables_1_5) (i := 180) rfl)))))) rfl
theorem m_1264 : (Jvm.Cond.selects "CoreHouse" ({ cls := "CoreHouse", name := "home", desc := "(II)I" } : Jvm.MethodName) ({ cls := "CoreHouse", name := "home", desc := "(II)I" } : Jvm.MethodName)) ∈ gw := mem_tb (List.mem_append_right _ (List.mem_append_right _ (List.mem_append_right _ (List.mem_append_right _ (List.mem_append_left _ (List.mem_of_getElem? (l := tables_1_5) (i := 181) rfl)))))) rfl
theorem m_1274 : (Jvm.Cond.codeWith ({ cls := "CoreHouseLaw", name := "memory", desc := "(LCoreHouse;I[J)I" } : Jvm.MethodName) method_12_code (4 : Nat) (Option.some Jvm.ClassFile.FieldType.int) [((0 : Nat), (9 : Nat), (12 : Nat), (19 : Nat))]) ∈ gw := mem_tb (List.mem_append_right _ (List.mem_append_right _ (List.mem_append_right _ (List.mem_append_right _ (List.mem_append_left _ (List.mem_of_getElem? (l := tables_1_5) (i := 191) rfl)))))) rfl
theorem m_1273 : (Jvm.Cond.static ({ cls := "CoreHouseLaw", name := "memory", desc := "(LCoreHouse;I[J)I" } : Jvm.MethodName)) ∈ gw := mem_tb (List.mem_append_right _ (List.mem_append_right _ (List.mem_append_right _ (List.mem_append_right _ (List.mem_append_left _ (List.mem_of_getElem? (l := tables_1_5) (i := 190) rfl)))))) rfl
theorem m_1275 : (Jvm.Cond.methodLink "CoreHouseLaw" (46 : Nat) ({ cls := "CoreHouse", name := "memory", desc := "(I)I" } : Jvm.MethodName)) ∈ gw := mem_tb (List.mem_append_right _ (List.mem_append_right _ (List.mem_append_right _ (List.mem_append_right _ (List.mem_append_left _ (List.mem_of_getElem? (l := tables_1_5) (i := 192) rfl)))))) rfl
theorem m_1276 : (Jvm.Cond.instanceMethod ({ cls := "CoreHouse", name := "memory", desc := "(I)I" } : Jvm.MethodName)) ∈ gw := mem_tb (List.mem_append_right _ (List.mem_append_right _ (List.mem_append_right _ (List.mem_append_right _ (List.mem_append_left _ (List.mem_of_getElem? (l := tables_1_5) (i := 193) rfl)))))) rfl
theorem m_1277 : (Jvm.Cond.selects "CoreHouse" ({ cls := "CoreHouse", name := "memory", desc := "(I)I" } : Jvm.MethodName) ({ cls := "CoreHouse", name := "memory", desc := "(I)I" } : Jvm.MethodName)) ∈ gw := mem_tb (List.mem_append_right _ (List.mem_append_right _ (List.mem_append_right _ (List.mem_append_right _ (List.mem_append_left _ (List.mem_of_getElem? (l := tables_1_5) (i := 194) rfl)))))) rfl
theorem m_1282 : (Jvm.Cond.codeWith ({ cls := "CoreHouseLaw", name := "word", desc := "(LCoreHouse;I[J)I" } : Jvm.MethodName) method_13_code (4 : Nat) (Option.some Jvm.ClassFile.FieldType.int) [((0 : Nat), (9 : Nat), (12 : Nat), (19 : Nat))]) ∈ gw := mem_tb (List.mem_append_right _ (List.mem_append_right _ (List.mem_append_right _ (List.mem_append_right _ (List.mem_append_left _ (List.mem_of_getElem? (l := tables_1_5) (i := 199) rfl)))))) rfl
theorem m_1281 : (Jvm.Cond.static ({ cls := "CoreHouseLaw", name := "word", desc := "(LCoreHouse;I[J)I" } : Jvm.MethodName)) ∈ gw := mem_tb (List.mem_append_right _ (List.mem_append_right _ (List.mem_append_right _ (List.mem_append_right _ (List.mem_append_left _ (List.mem_of_getElem? (l := tables_1_5) (i := 198) rfl)))))) rfl
theorem m_1283 : (Jvm.Cond.methodLink "CoreHouseLaw" (49 : Nat) ({ cls := "CoreHouse", name := "word", desc := "(I)I" } : Jvm.MethodName)) ∈ gw := mem_tb (List.mem_append_right _ (List.mem_append_right _ (List.mem_append_right _ (List.mem_append_right _ (List.mem_append_left _ (List.mem_of_getElem? (l := tables_1_5) (i := 200) rfl)))))) rfl
theorem m_1284 : (Jvm.Cond.instanceMethod ({ cls := "CoreHouse", name := "word", desc := "(I)I" } : Jvm.MethodName)) ∈ gw := mem_tb (List.mem_append_right _ (List.mem_append_right _ (List.mem_append_right _ (List.mem_append_right _ (List.mem_append_left _ (List.mem_of_getElem? (l := tables_1_5) (i := 201) rfl)))))) rfl
theorem m_1285 : (Jvm.Cond.selects "CoreHouse" ({ cls := "CoreHouse", name := "word", desc := "(I)I" } : Jvm.MethodName) ({ cls := "CoreHouse", name := "word", desc := "(I)I" } : Jvm.MethodName)) ∈ gw := mem_tb (List.mem_append_right _ (List.mem_append_right _ (List.mem_append_right _ (List.mem_append_right _ (List.mem_append_left _ (List.mem_of_getElem? (l := tables_1_5) (i := 202) rfl)))))) rfl
theorem m_1298 : (Jvm.Cond.codeWith ({ cls := "CoreHouseLaw", name := "message", desc := "(LCoreHouse;II[J)I" } : Jvm.MethodName) method_14_code (5 : Nat) (Option.some Jvm.ClassFile.FieldType.int) [((0 : Nat), (10 : Nat), (13 : Nat), (34 : Nat))]) ∈ gw := mem_tb (List.mem_append_right _ (List.mem_append_right _ (List.mem_append_right _ (List.mem_append_right _ (List.mem_append_left _ (List.mem_of_getElem? (l := tables_1_5) (i := 215) rfl)))))) rfl
theorem m_1297 : (Jvm.Cond.static ({ cls := "CoreHouseLaw", name := "message", desc := "(LCoreHouse;II[J)I" } : Jvm.MethodName)) ∈ gw := mem_tb (List.mem_append_right _ (List.mem_append_right _ (List.mem_append_right _ (List.mem_append_right _ (List.mem_append_left _ (List.mem_of_getElem? (l := tables_1_5) (i := 214) rfl)))))) rfl
theorem m_1299 : (Jvm.Cond.methodLink "CoreHouseLaw" (52 : Nat) ({ cls := "CoreHouse", name := "message", desc := "(II)I" } : Jvm.MethodName)) ∈ gw := mem_tb (List.mem_append_right _ (List.mem_append_right _ (List.mem_append_right _ (List.mem_append_right _ (List.mem_append_left _ (List.mem_of_getElem? (l := tables_1_5) (i := 216) rfl)))))) rfl
theorem m_1300 : (Jvm.Cond.instanceMethod ({ cls := "CoreHouse", name := "message", desc := "(II)I" } : Jvm.MethodName)) ∈ gw := mem_tb (List.mem_append_right _ (List.mem_append_right _ (List.mem_append_right _ (List.mem_append_right _ (List.mem_append_left _ (List.mem_of_getElem? (l := tables_1_5) (i := 217) rfl)))))) rfl
theorem m_1301 : (Jvm.Cond.selects "CoreHouse" ({ cls := "CoreHouse", name := "message", desc := "(II)I" } : Jvm.MethodName) ({ cls := "CoreHouse", name := "message", desc := "(II)I" } : Jvm.MethodName)) ∈ gw := mem_tb (List.mem_append_right _ (List.mem_append_right _ (List.mem_append_right _ (List.mem_append_right _ (List.mem_append_left _ (List.mem_of_getElem? (l := tables_1_5) (i := 218) rfl)))))) rfl
theorem dL_assemble_0 : decode cL_assemble 0 = .ok (.aload_n 1, 1) := by decide +kernel
theorem dL_assemble_1 : decode cL_assemble 1 = .ok (.iconst 0, 1) := by decide +kernel
theorem dL_assemble_2 : decode cL_assemble 2 = .ok (.aload_n 0, 1) := by decide +kernel
theorem dL_assemble_3 : decode cL_assemble 3 = .ok (.invokevirtual 7, 3) := by decide +kernel
theorem dL_assemble_6 : decode cL_assemble 6 = .ok (.i2l, 1) := by decide +kernel
theorem dL_assemble_7 : decode cL_assemble 7 = .ok (.lastore, 1) := by decide +kernel
theorem dL_assemble_8 : decode cL_assemble 8 = .ok (.goto 6, 3) := by decide +kernel
theorem dL_assemble_11 : decode cL_assemble 11 = .ok (.astore_n 2, 1) := by decide +kernel
theorem dL_assemble_12 : decode cL_assemble 12 = .ok (.iconst 1, 1) := by decide +kernel
theorem dL_assemble_13 : decode cL_assemble 13 = .ok (.ireturn, 1) := by decide +kernel
theorem dL_assemble_14 : decode cL_assemble 14 = .ok (.iconst 0, 1) := by decide +kernel
theorem dL_assemble_15 : decode cL_assemble 15 = .ok (.ireturn, 1) := by decide +kernel
abbrev kL_assemble : Mt := (yL_assemble, cL_assemble, 3, some .int, 8, 221)
theorem cw_assemble : CW kL_assemble [(0, 8, 11, 13)] 2 := ⟨m_716, m_123, by decide, by decide, by decide +kernel, m_715⟩
theorem ml0_assemble (l : Launch) (X : Cx) (hl : l.stackTraces = false) {h m ot h1 : AH} {v : Int32} (hf : f_X10_assemble h 1 = some (some v, h1)) (hs : hS h 1 = 9) (ho : hS ot 277 = 22) (hn : hN ot 277 = 1) : Met l kL_assemble.1 (wsw kL_assemble [(0, 8, 11, 13)]) (rmk kL_assemble h h1) (va_Pc [rf X 1, rf X 277] (W3 X h m ot)) (QL0 X v h1 m ot) (hZ h1 - hZ h) (hV h1 - hV h) (xAr X) := by
  refine va_MetW (cc := kL_assemble.2.1) (maxL := kL_assemble.2.2.1) (ret := kL_assemble.2.2.2.1) (hh := [(0, 8, 11, 13)]) (by decide) rfl ?_
  intro p e s mm args below meth c s₁ B hml hP
  obtain ⟨rfl, hR, hK, hSx⟩ := hP
  have hts := atoms_spec (ws := wsw kL_assemble [(0, 8, 11, 13)]) B.pre
  have F : QF X kL_assemble p s mm ([rf X 1, rf X 277] : List Value).toArray c := ⟨B.exec, B.bytes, hml, findClass_of_methodNamed B.named, fun w hw => hts w (List.mem_cons_of_mem _ hw), hK, hSx⟩
  have hin := lv_entry ([rf X 1, rf X 277] : List Value) (n := kL_assemble.2.2.1) (by simp [lg_sl, rf_cat, ca_i, ca_l, ca_r])
  rw [show lv_args 0 ([rf X 1, rf X 277] : List Value) = [(0, rf X 1), (1, rf X 277)] by simp [lv_args, rf_cat, ca_i, ca_l, ca_r]] at hin
  rw [lg_entry_eq]
  have hrt : meth.sig.returnType = some .int := B.returns
  refine LW.use (X := X) (k := kL_assemble) ?_ va_S.rf hR hin
  refine lr_aload_n (pc := 0) (i := 1) F 1 dL_assemble_0 rfl rfl ?_
  refine lr_iconst (pc := 1) (v := 0) F dL_assemble_1 rfl ?_
  refine lr_aload_n (pc := 2) (i := 0) F 0 dL_assemble_2 rfl rfl ?_
  refine lr_callC (pc := 3) (ci := 8) (o := 1) (av := []) (st := [.int 0, rf X 277]) F dL_assemble_3 ck_X10_assemble m_718 m_719 m_720 rfl (by decide) hs (Nat.le_refl _) (Nat.le_refl _) rfl (by simp [rf_cat, ca_i, ca_l, ca_r]) (ctr_X10_assemble l X hl hf) rfl rfl rfl (Nat.le_of_eq (Nat.zero_add _)) (Nat.le_of_eq (Nat.zero_add _)) ?_
  refine lr_i2l (pc := 6) F dL_assemble_6 ?_
  refine lr_last (pc := 7) F ho (by rw [hn]; rfl) dL_assemble_7 ?_
  refine lr_goto (pc := 8) (tgt := 14) F dL_assemble_8 rfl ?_
  refine lr_iconst (pc := 14) (v := 0) F dL_assemble_14 rfl ?_
  exact lr_iret (pc := 15) F hrt B.notSynchronized dL_assemble_15 (Nat.le_of_eq (Nat.zero_add _)) (Nat.le_of_eq (Nat.zero_add _)) (fun t hR hF => ⟨⟨rfl, hR⟩, hF⟩)
theorem ml1_assemble (l : Launch) (X : Cx) (hl : l.stackTraces = false) {h m ot h1 : AH} (hf : f_X10_assemble h 1 = some (none, h1)) (hs : hS h 1 = 9) (ho : hS ot 277 = 22) (hn : hN ot 277 = 1) : Met l kL_assemble.1 (wsw kL_assemble [(0, 8, 11, 13)]) (rmk kL_assemble h h1) (va_Pc [rf X 1, rf X 277] (W3 X h m ot)) (QL1 X h1 m ot) (hZ h1 - hZ h) (hV h1 - hV h) (xAr X) := by
  refine va_MetW (cc := kL_assemble.2.1) (maxL := kL_assemble.2.2.1) (ret := kL_assemble.2.2.2.1) (hh := [(0, 8, 11, 13)]) (by decide) rfl ?_
  intro p e s mm args below meth c s₁ B hml hP
  obtain ⟨rfl, hR, hK, hSx⟩ := hP
  have hts := atoms_spec (ws := wsw kL_assemble [(0, 8, 11, 13)]) B.pre
  have F : QF X kL_assemble p s mm ([rf X 1, rf X 277] : List Value).toArray c := ⟨B.exec, B.bytes, hml, findClass_of_methodNamed B.named, fun w hw => hts w (List.mem_cons_of_mem _ hw), hK, hSx⟩
  have hin := lv_entry ([rf X 1, rf X 277] : List Value) (n := kL_assemble.2.2.1) (by simp [lg_sl, rf_cat, ca_i, ca_l, ca_r])
  rw [show lv_args 0 ([rf X 1, rf X 277] : List Value) = [(0, rf X 1), (1, rf X 277)] by simp [lv_args, rf_cat, ca_i, ca_l, ca_r]] at hin
  rw [lg_entry_eq]
  have hrt : meth.sig.returnType = some .int := B.returns
  refine LW.use (X := X) (k := kL_assemble) ?_ va_S.rf hR hin
  refine lr_aload_n (pc := 0) (i := 1) F 1 dL_assemble_0 rfl rfl ?_
  refine lr_iconst (pc := 1) (v := 0) F dL_assemble_1 rfl ?_
  refine lr_aload_n (pc := 2) (i := 0) F 0 dL_assemble_2 rfl rfl ?_
  refine lr_callX (pc := 3) (ci := 8) (o := 1) (av := []) (st := [.int 0, rf X 277]) ⟨0, 8, 11, 13⟩ F dL_assemble_3 ck_X10_assemble m_718 m_719 m_720 rfl (by decide) hs (Nat.le_refl _) (Nat.le_refl _) rfl (by simp [rf_cat, ca_i, ca_l, ca_r]) (ctx_X10_assemble l X hl hf) rfl rfl rfl (Nat.le_of_eq (Nat.zero_add _)) (Nat.le_of_eq (Nat.zero_add _)) (vx_table (x := kL_assemble.1) B (hts _ List.mem_cons_self)) rfl (by decide) m_717 (by decide) (fun n9 q9 => ?_)
  show LW X kL_assemble p l e _ s mm _ below meth c _ 11 _ _ _ _ _ _ _
  refine lr_astore_nC (pc := 11) (i := 2) F dL_assemble_11 rfl (by decide) rfl ?_
  refine lr_iconst (pc := 12) (v := 1) F dL_assemble_12 rfl ?_
  exact lr_iret (pc := 13) F hrt B.notSynchronized dL_assemble_13 (Nat.le_of_eq (Nat.zero_add _)) (Nat.le_of_eq (Nat.zero_add _)) (fun t hR hF => ⟨⟨rfl, n9, hR⟩, hF⟩)
theorem dL_step_0 : decode cL_step 0 = .ok (.aload_n 2, 1) := by decide +kernel
theorem dL_step_1 : decode cL_step 1 = .ok (.iconst 0, 1) := by decide +kernel
theorem dL_step_2 : decode cL_step 2 = .ok (.aload_n 0, 1) := by decide +kernel
theorem dL_step_3 : decode cL_step 3 = .ok (.iload_n 1, 1) := by decide +kernel
theorem dL_step_4 : decode cL_step 4 = .ok (.invokevirtual 15, 3) := by decide +kernel
theorem dL_step_7 : decode cL_step 7 = .ok (.i2l, 1) := by decide +kernel
theorem dL_step_8 : decode cL_step 8 = .ok (.lastore, 1) := by decide +kernel
theorem dL_step_9 : decode cL_step 9 = .ok (.goto 6, 3) := by decide +kernel
theorem dL_step_12 : decode cL_step 12 = .ok (.astore_n 3, 1) := by decide +kernel
theorem dL_step_13 : decode cL_step 13 = .ok (.iconst 1, 1) := by decide +kernel
theorem dL_step_14 : decode cL_step 14 = .ok (.ireturn, 1) := by decide +kernel
theorem dL_step_15 : decode cL_step 15 = .ok (.iconst 0, 1) := by decide +kernel
theorem dL_step_16 : decode cL_step 16 = .ok (.ireturn, 1) := by decide +kernel
abbrev kL_step : Mt := (yL_step, cL_step, 4, some .int, 9, 228)
theorem cw_step : CW kL_step [(0, 9, 12, 19)] 3 := ⟨m_985, m_123, by decide, by decide, by decide +kernel, m_984⟩
theorem ml0_step (l : Launch) (X : Cx) (hl : l.stackTraces = false) {h m ot h1 : AH} {x0 : Int32} {v : Int32} (hf : f_X10_step h 1 x0 = some (some v, h1)) (hs : hS h 1 = 9) (ho : hS ot 277 = 22) (hn : hN ot 277 = 1) : Met l kL_step.1 (wsw kL_step [(0, 9, 12, 19)]) (rmk kL_step h h1) (va_Pc [rf X 1, .int x0, rf X 277] (W3 X h m ot)) (QL0 X v h1 m ot) (hZ h1 - hZ h) (hV h1 - hV h) (xAr X) := by
  refine va_MetW (cc := kL_step.2.1) (maxL := kL_step.2.2.1) (ret := kL_step.2.2.2.1) (hh := [(0, 9, 12, 19)]) (by decide) rfl ?_
  intro p e s mm args below meth c s₁ B hml hP
  obtain ⟨rfl, hR, hK, hSx⟩ := hP
  have hts := atoms_spec (ws := wsw kL_step [(0, 9, 12, 19)]) B.pre
  have F : QF X kL_step p s mm ([rf X 1, .int x0, rf X 277] : List Value).toArray c := ⟨B.exec, B.bytes, hml, findClass_of_methodNamed B.named, fun w hw => hts w (List.mem_cons_of_mem _ hw), hK, hSx⟩
  have hin := lv_entry ([rf X 1, .int x0, rf X 277] : List Value) (n := kL_step.2.2.1) (by simp [lg_sl, rf_cat, ca_i, ca_l, ca_r])
  rw [show lv_args 0 ([rf X 1, .int x0, rf X 277] : List Value) = [(0, rf X 1), (1, .int x0), (2, rf X 277)] by simp [lv_args, rf_cat, ca_i, ca_l, ca_r]] at hin
  rw [lg_entry_eq]
  have hrt : meth.sig.returnType = some .int := B.returns
  refine LW.use (X := X) (k := kL_step) ?_ va_S.rf hR hin
  refine lr_aload_n (pc := 0) (i := 2) F 2 dL_step_0 rfl rfl ?_
  refine lr_iconst (pc := 1) (v := 0) F dL_step_1 rfl ?_
  refine lr_aload_n (pc := 2) (i := 0) F 0 dL_step_2 rfl rfl ?_
  refine lr_iload_n (pc := 3) (i := 1) F 1 dL_step_3 rfl rfl ?_
  refine lr_callC (pc := 4) (ci := 8) (o := 1) (av := [.int x0]) (st := [.int 0, rf X 277]) F dL_step_4 ck_X10_step m_987 m_988 m_989 rfl (by decide) hs (Nat.le_refl _) (Nat.le_refl _) rfl (by simp [rf_cat, ca_i, ca_l, ca_r]) (ctr_X10_step l X hl hf) rfl rfl rfl (Nat.le_of_eq (Nat.zero_add _)) (Nat.le_of_eq (Nat.zero_add _)) ?_
  refine lr_i2l (pc := 7) F dL_step_7 ?_
  refine lr_last (pc := 8) F ho (by rw [hn]; rfl) dL_step_8 ?_
  refine lr_goto (pc := 9) (tgt := 15) F dL_step_9 rfl ?_
  refine lr_iconst (pc := 15) (v := 0) F dL_step_15 rfl ?_
  exact lr_iret (pc := 16) F hrt B.notSynchronized dL_step_16 (Nat.le_of_eq (Nat.zero_add _)) (Nat.le_of_eq (Nat.zero_add _)) (fun t hR hF => ⟨⟨rfl, hR⟩, hF⟩)
theorem ml1_step (l : Launch) (X : Cx) (hl : l.stackTraces = false) {h m ot h1 : AH} {x0 : Int32} (hf : f_X10_step h 1 x0 = some (none, h1)) (hs : hS h 1 = 9) (ho : hS ot 277 = 22) (hn : hN ot 277 = 1) : Met l kL_step.1 (wsw kL_step [(0, 9, 12, 19)]) (rmk kL_step h h1) (va_Pc [rf X 1, .int x0, rf X 277] (W3 X h m ot)) (QL1 X h1 m ot) (hZ h1 - hZ h) (hV h1 - hV h) (xAr X) := by
  refine va_MetW (cc := kL_step.2.1) (maxL := kL_step.2.2.1) (ret := kL_step.2.2.2.1) (hh := [(0, 9, 12, 19)]) (by decide) rfl ?_
  intro p e s mm args below meth c s₁ B hml hP
  obtain ⟨rfl, hR, hK, hSx⟩ := hP
  have hts := atoms_spec (ws := wsw kL_step [(0, 9, 12, 19)]) B.pre
  have F : QF X kL_step p s mm ([rf X 1, .int x0, rf X 277] : List Value).toArray c := ⟨B.exec, B.bytes, hml, findClass_of_methodNamed B.named, fun w hw => hts w (List.mem_cons_of_mem _ hw), hK, hSx⟩
  have hin := lv_entry ([rf X 1, .int x0, rf X 277] : List Value) (n := kL_step.2.2.1) (by simp [lg_sl, rf_cat, ca_i, ca_l, ca_r])
  rw [show lv_args 0 ([rf X 1, .int x0, rf X 277] : List Value) = [(0, rf X 1), (1, .int x0), (2, rf X 277)] by simp [lv_args, rf_cat, ca_i, ca_l, ca_r]] at hin
  rw [lg_entry_eq]
  have hrt : meth.sig.returnType = some .int := B.returns
  refine LW.use (X := X) (k := kL_step) ?_ va_S.rf hR hin
  refine lr_aload_n (pc := 0) (i := 2) F 2 dL_step_0 rfl rfl ?_
  refine lr_iconst (pc := 1) (v := 0) F dL_step_1 rfl ?_
  refine lr_aload_n (pc := 2) (i := 0) F 0 dL_step_2 rfl rfl ?_
  refine lr_iload_n (pc := 3) (i := 1) F 1 dL_step_3 rfl rfl ?_
  refine lr_callX (pc := 4) (ci := 8) (o := 1) (av := [.int x0]) (st := [.int 0, rf X 277]) ⟨0, 9, 12, 19⟩ F dL_step_4 ck_X10_step m_987 m_988 m_989 rfl (by decide) hs (Nat.le_refl _) (Nat.le_refl _) rfl (by simp [rf_cat, ca_i, ca_l, ca_r]) (ctx_X10_step l X hl hf) rfl rfl rfl (Nat.le_of_eq (Nat.zero_add _)) (Nat.le_of_eq (Nat.zero_add _)) (vx_table (x := kL_step.1) B (hts _ List.mem_cons_self)) rfl (by decide) m_986 (by decide) (fun n9 q9 => ?_)
  show LW X kL_step p l e _ s mm _ below meth c _ 12 _ _ _ _ _ _ _
  refine lr_astore_nC (pc := 12) (i := 3) F dL_step_12 rfl (by decide) rfl ?_
  refine lr_iconst (pc := 13) (v := 1) F dL_step_13 rfl ?_
  exact lr_iret (pc := 14) F hrt B.notSynchronized dL_step_14 (Nat.le_of_eq (Nat.zero_add _)) (Nat.le_of_eq (Nat.zero_add _)) (fun t hR hF => ⟨⟨rfl, n9, hR⟩, hF⟩)
theorem dL_drain_0 : decode cL_drain 0 = .ok (.aload_n 2, 1) := by decide +kernel
theorem dL_drain_1 : decode cL_drain 1 = .ok (.iconst 0, 1) := by decide +kernel
theorem dL_drain_2 : decode cL_drain 2 = .ok (.aload_n 0, 1) := by decide +kernel
theorem dL_drain_3 : decode cL_drain 3 = .ok (.iload_n 1, 1) := by decide +kernel
theorem dL_drain_4 : decode cL_drain 4 = .ok (.invokevirtual 21, 3) := by decide +kernel
theorem dL_drain_7 : decode cL_drain 7 = .ok (.i2l, 1) := by decide +kernel
theorem dL_drain_8 : decode cL_drain 8 = .ok (.lastore, 1) := by decide +kernel
theorem dL_drain_9 : decode cL_drain 9 = .ok (.goto 6, 3) := by decide +kernel
theorem dL_drain_12 : decode cL_drain 12 = .ok (.astore_n 3, 1) := by decide +kernel
theorem dL_drain_13 : decode cL_drain 13 = .ok (.iconst 1, 1) := by decide +kernel
theorem dL_drain_14 : decode cL_drain 14 = .ok (.ireturn, 1) := by decide +kernel
theorem dL_drain_15 : decode cL_drain 15 = .ok (.iconst 0, 1) := by decide +kernel
theorem dL_drain_16 : decode cL_drain 16 = .ok (.ireturn, 1) := by decide +kernel
abbrev kL_drain : Mt := (yL_drain, cL_drain, 4, some .int, 8, 221)
theorem cw_drain : CW kL_drain [(0, 9, 12, 19)] 3 := ⟨m_1146, m_123, by decide, by decide, by decide +kernel, m_1145⟩
theorem ml0_drain (l : Launch) (X : Cx) (hl : l.stackTraces = false) {h m ot h1 : AH} {x0 : Int32} {v : Int32} (hf : f_X10_drain h 1 x0 = some (some v, h1)) (hs : hS h 1 = 9) (ho : hS ot 277 = 22) (hn : hN ot 277 = 1) : Met l kL_drain.1 (wsw kL_drain [(0, 9, 12, 19)]) (rmk kL_drain h h1) (va_Pc [rf X 1, .int x0, rf X 277] (W3 X h m ot)) (QL0 X v h1 m ot) (hZ h1 - hZ h) (hV h1 - hV h) (xAr X) := by
  refine va_MetW (cc := kL_drain.2.1) (maxL := kL_drain.2.2.1) (ret := kL_drain.2.2.2.1) (hh := [(0, 9, 12, 19)]) (by decide) rfl ?_
  intro p e s mm args below meth c s₁ B hml hP
  obtain ⟨rfl, hR, hK, hSx⟩ := hP
  have hts := atoms_spec (ws := wsw kL_drain [(0, 9, 12, 19)]) B.pre
  have F : QF X kL_drain p s mm ([rf X 1, .int x0, rf X 277] : List Value).toArray c := ⟨B.exec, B.bytes, hml, findClass_of_methodNamed B.named, fun w hw => hts w (List.mem_cons_of_mem _ hw), hK, hSx⟩
  have hin := lv_entry ([rf X 1, .int x0, rf X 277] : List Value) (n := kL_drain.2.2.1) (by simp [lg_sl, rf_cat, ca_i, ca_l, ca_r])
  rw [show lv_args 0 ([rf X 1, .int x0, rf X 277] : List Value) = [(0, rf X 1), (1, .int x0), (2, rf X 277)] by simp [lv_args, rf_cat, ca_i, ca_l, ca_r]] at hin
  rw [lg_entry_eq]
  have hrt : meth.sig.returnType = some .int := B.returns
  refine LW.use (X := X) (k := kL_drain) ?_ va_S.rf hR hin
  refine lr_aload_n (pc := 0) (i := 2) F 2 dL_drain_0 rfl rfl ?_
  refine lr_iconst (pc := 1) (v := 0) F dL_drain_1 rfl ?_
  refine lr_aload_n (pc := 2) (i := 0) F 0 dL_drain_2 rfl rfl ?_
  refine lr_iload_n (pc := 3) (i := 1) F 1 dL_drain_3 rfl rfl ?_
  refine lr_callC (pc := 4) (ci := 8) (o := 1) (av := [.int x0]) (st := [.int 0, rf X 277]) F dL_drain_4 ck_X10_drain m_1147 m_1148 m_1149 rfl (by decide) hs (Nat.le_refl _) (Nat.le_refl _) rfl (by simp [rf_cat, ca_i, ca_l, ca_r]) (ctr_X10_drain l X hl hf) rfl rfl rfl (Nat.le_of_eq (Nat.zero_add _)) (Nat.le_of_eq (Nat.zero_add _)) ?_
  refine lr_i2l (pc := 7) F dL_drain_7 ?_
  refine lr_last (pc := 8) F ho (by rw [hn]; rfl) dL_drain_8 ?_
  refine lr_goto (pc := 9) (tgt := 15) F dL_drain_9 rfl ?_
  refine lr_iconst (pc := 15) (v := 0) F dL_drain_15 rfl ?_
  exact lr_iret (pc := 16) F hrt B.notSynchronized dL_drain_16 (Nat.le_of_eq (Nat.zero_add _)) (Nat.le_of_eq (Nat.zero_add _)) (fun t hR hF => ⟨⟨rfl, hR⟩, hF⟩)
theorem ml1_drain (l : Launch) (X : Cx) (hl : l.stackTraces = false) {h m ot h1 : AH} {x0 : Int32} (hf : f_X10_drain h 1 x0 = some (none, h1)) (hs : hS h 1 = 9) (ho : hS ot 277 = 22) (hn : hN ot 277 = 1) : Met l kL_drain.1 (wsw kL_drain [(0, 9, 12, 19)]) (rmk kL_drain h h1) (va_Pc [rf X 1, .int x0, rf X 277] (W3 X h m ot)) (QL1 X h1 m ot) (hZ h1 - hZ h) (hV h1 - hV h) (xAr X) := by
  refine va_MetW (cc := kL_drain.2.1) (maxL := kL_drain.2.2.1) (ret := kL_drain.2.2.2.1) (hh := [(0, 9, 12, 19)]) (by decide) rfl ?_
  intro p e s mm args below meth c s₁ B hml hP
  obtain ⟨rfl, hR, hK, hSx⟩ := hP
  have hts := atoms_spec (ws := wsw kL_drain [(0, 9, 12, 19)]) B.pre
  have F : QF X kL_drain p s mm ([rf X 1, .int x0, rf X 277] : List Value).toArray c := ⟨B.exec, B.bytes, hml, findClass_of_methodNamed B.named, fun w hw => hts w (List.mem_cons_of_mem _ hw), hK, hSx⟩
  have hin := lv_entry ([rf X 1, .int x0, rf X 277] : List Value) (n := kL_drain.2.2.1) (by simp [lg_sl, rf_cat, ca_i, ca_l, ca_r])
  rw [show lv_args 0 ([rf X 1, .int x0, rf X 277] : List Value) = [(0, rf X 1), (1, .int x0), (2, rf X 277)] by simp [lv_args, rf_cat, ca_i, ca_l, ca_r]] at hin
  rw [lg_entry_eq]
  have hrt : meth.sig.returnType = some .int := B.returns
  refine LW.use (X := X) (k := kL_drain) ?_ va_S.rf hR hin
  refine lr_aload_n (pc := 0) (i := 2) F 2 dL_drain_0 rfl rfl ?_
  refine lr_iconst (pc := 1) (v := 0) F dL_drain_1 rfl ?_
  refine lr_aload_n (pc := 2) (i := 0) F 0 dL_drain_2 rfl rfl ?_
  refine lr_iload_n (pc := 3) (i := 1) F 1 dL_drain_3 rfl rfl ?_
  refine lr_callX (pc := 4) (ci := 8) (o := 1) (av := [.int x0]) (st := [.int 0, rf X 277]) ⟨0, 9, 12, 19⟩ F dL_drain_4 ck_X10_drain m_1147 m_1148 m_1149 rfl (by decide) hs (Nat.le_refl _) (Nat.le_refl _) rfl (by simp [rf_cat, ca_i, ca_l, ca_r]) (ctx_X10_drain l X hl hf) rfl rfl rfl (Nat.le_of_eq (Nat.zero_add _)) (Nat.le_of_eq (Nat.zero_add _)) (vx_table (x := kL_drain.1) B (hts _ List.mem_cons_self)) rfl (by decide) m_986 (by decide) (fun n9 q9 => ?_)
  show LW X kL_drain p l e _ s mm _ below meth c _ 12 _ _ _ _ _ _ _
  refine lr_astore_nC (pc := 12) (i := 3) F dL_drain_12 rfl (by decide) rfl ?_
  refine lr_iconst (pc := 13) (v := 1) F dL_drain_13 rfl ?_
  exact lr_iret (pc := 14) F hrt B.notSynchronized dL_drain_14 (Nat.le_of_eq (Nat.zero_add _)) (Nat.le_of_eq (Nat.zero_add _)) (fun t hR hF => ⟨⟨rfl, n9, hR⟩, hF⟩)
theorem dL_run_0 : decode cL_run 0 = .ok (.aload_n 2, 1) := by decide +kernel
theorem dL_run_1 : decode cL_run 1 = .ok (.iconst 0, 1) := by decide +kernel
theorem dL_run_2 : decode cL_run 2 = .ok (.aload_n 0, 1) := by decide +kernel
theorem dL_run_3 : decode cL_run 3 = .ok (.iload_n 1, 1) := by decide +kernel
theorem dL_run_4 : decode cL_run 4 = .ok (.invokevirtual 24, 3) := by decide +kernel
theorem dL_run_7 : decode cL_run 7 = .ok (.i2l, 1) := by decide +kernel
theorem dL_run_8 : decode cL_run 8 = .ok (.lastore, 1) := by decide +kernel
theorem dL_run_9 : decode cL_run 9 = .ok (.goto 6, 3) := by decide +kernel
theorem dL_run_12 : decode cL_run 12 = .ok (.astore_n 3, 1) := by decide +kernel
theorem dL_run_13 : decode cL_run 13 = .ok (.iconst 1, 1) := by decide +kernel
theorem dL_run_14 : decode cL_run 14 = .ok (.ireturn, 1) := by decide +kernel
theorem dL_run_15 : decode cL_run 15 = .ok (.iconst 0, 1) := by decide +kernel
theorem dL_run_16 : decode cL_run 16 = .ok (.ireturn, 1) := by decide +kernel
abbrev kL_run : Mt := (yL_run, cL_run, 4, some .int, 9, 232)
theorem cw_run : CW kL_run [(0, 9, 12, 13)] 3 := ⟨m_1163, m_123, by decide, by decide, by decide +kernel, m_1162⟩
theorem ml0_run (l : Launch) (X : Cx) (hl : l.stackTraces = false) {h m ot h1 : AH} {x0 : Int32} {v : Int32} (hf : f_X10_run h 1 x0 = some (some v, h1)) (hs : hS h 1 = 9) (ho : hS ot 277 = 22) (hn : hN ot 277 = 1) : Met l kL_run.1 (wsw kL_run [(0, 9, 12, 13)]) (rmk kL_run h h1) (va_Pc [rf X 1, .int x0, rf X 277] (W3 X h m ot)) (QL0 X v h1 m ot) (hZ h1 - hZ h) (hV h1 - hV h) (xAr X) := by
  refine va_MetW (cc := kL_run.2.1) (maxL := kL_run.2.2.1) (ret := kL_run.2.2.2.1) (hh := [(0, 9, 12, 13)]) (by decide) rfl ?_
  intro p e s mm args below meth c s₁ B hml hP
  obtain ⟨rfl, hR, hK, hSx⟩ := hP
  have hts := atoms_spec (ws := wsw kL_run [(0, 9, 12, 13)]) B.pre
  have F : QF X kL_run p s mm ([rf X 1, .int x0, rf X 277] : List Value).toArray c := ⟨B.exec, B.bytes, hml, findClass_of_methodNamed B.named, fun w hw => hts w (List.mem_cons_of_mem _ hw), hK, hSx⟩
  have hin := lv_entry ([rf X 1, .int x0, rf X 277] : List Value) (n := kL_run.2.2.1) (by simp [lg_sl, rf_cat, ca_i, ca_l, ca_r])
  rw [show lv_args 0 ([rf X 1, .int x0, rf X 277] : List Value) = [(0, rf X 1), (1, .int x0), (2, rf X 277)] by simp [lv_args, rf_cat, ca_i, ca_l, ca_r]] at hin
  rw [lg_entry_eq]
  have hrt : meth.sig.returnType = some .int := B.returns
  refine LW.use (X := X) (k := kL_run) ?_ va_S.rf hR hin
  refine lr_aload_n (pc := 0) (i := 2) F 2 dL_run_0 rfl rfl ?_
  refine lr_iconst (pc := 1) (v := 0) F dL_run_1 rfl ?_
  refine lr_aload_n (pc := 2) (i := 0) F 0 dL_run_2 rfl rfl ?_
  refine lr_iload_n (pc := 3) (i := 1) F 1 dL_run_3 rfl rfl ?_
  refine lr_callC (pc := 4) (ci := 8) (o := 1) (av := [.int x0]) (st := [.int 0, rf X 277]) F dL_run_4 ck_X10_run m_1164 m_1165 m_1166 rfl (by decide) hs (Nat.le_refl _) (Nat.le_refl _) rfl (by simp [rf_cat, ca_i, ca_l, ca_r]) (ctr_X10_run l X hl hf) rfl rfl rfl (Nat.le_of_eq (Nat.zero_add _)) (Nat.le_of_eq (Nat.zero_add _)) ?_
  refine lr_i2l (pc := 7) F dL_run_7 ?_
  refine lr_last (pc := 8) F ho (by rw [hn]; rfl) dL_run_8 ?_
  refine lr_goto (pc := 9) (tgt := 15) F dL_run_9 rfl ?_
  refine lr_iconst (pc := 15) (v := 0) F dL_run_15 rfl ?_
  exact lr_iret (pc := 16) F hrt B.notSynchronized dL_run_16 (Nat.le_of_eq (Nat.zero_add _)) (Nat.le_of_eq (Nat.zero_add _)) (fun t hR hF => ⟨⟨rfl, hR⟩, hF⟩)
theorem ml1_run (l : Launch) (X : Cx) (hl : l.stackTraces = false) {h m ot h1 : AH} {x0 : Int32} (hf : f_X10_run h 1 x0 = some (none, h1)) (hs : hS h 1 = 9) (ho : hS ot 277 = 22) (hn : hN ot 277 = 1) : Met l kL_run.1 (wsw kL_run [(0, 9, 12, 13)]) (rmk kL_run h h1) (va_Pc [rf X 1, .int x0, rf X 277] (W3 X h m ot)) (QL1 X h1 m ot) (hZ h1 - hZ h) (hV h1 - hV h) (xAr X) := by
  refine va_MetW (cc := kL_run.2.1) (maxL := kL_run.2.2.1) (ret := kL_run.2.2.2.1) (hh := [(0, 9, 12, 13)]) (by decide) rfl ?_
  intro p e s mm args below meth c s₁ B hml hP
  obtain ⟨rfl, hR, hK, hSx⟩ := hP
  have hts := atoms_spec (ws := wsw kL_run [(0, 9, 12, 13)]) B.pre
  have F : QF X kL_run p s mm ([rf X 1, .int x0, rf X 277] : List Value).toArray c := ⟨B.exec, B.bytes, hml, findClass_of_methodNamed B.named, fun w hw => hts w (List.mem_cons_of_mem _ hw), hK, hSx⟩
  have hin := lv_entry ([rf X 1, .int x0, rf X 277] : List Value) (n := kL_run.2.2.1) (by simp [lg_sl, rf_cat, ca_i, ca_l, ca_r])
  rw [show lv_args 0 ([rf X 1, .int x0, rf X 277] : List Value) = [(0, rf X 1), (1, .int x0), (2, rf X 277)] by simp [lv_args, rf_cat, ca_i, ca_l, ca_r]] at hin
  rw [lg_entry_eq]
  have hrt : meth.sig.returnType = some .int := B.returns
  refine LW.use (X := X) (k := kL_run) ?_ va_S.rf hR hin
  refine lr_aload_n (pc := 0) (i := 2) F 2 dL_run_0 rfl rfl ?_
  refine lr_iconst (pc := 1) (v := 0) F dL_run_1 rfl ?_
  refine lr_aload_n (pc := 2) (i := 0) F 0 dL_run_2 rfl rfl ?_
  refine lr_iload_n (pc := 3) (i := 1) F 1 dL_run_3 rfl rfl ?_
  refine lr_callX (pc := 4) (ci := 8) (o := 1) (av := [.int x0]) (st := [.int 0, rf X 277]) ⟨0, 9, 12, 13⟩ F dL_run_4 ck_X10_run m_1164 m_1165 m_1166 rfl (by decide) hs (Nat.le_refl _) (Nat.le_refl _) rfl (by simp [rf_cat, ca_i, ca_l, ca_r]) (ctx_X10_run l X hl hf) rfl rfl rfl (Nat.le_of_eq (Nat.zero_add _)) (Nat.le_of_eq (Nat.zero_add _)) (vx_table (x := kL_run.1) B (hts _ List.mem_cons_self)) rfl (by decide) m_717 (by decide) (fun n9 q9 => ?_)
  show LW X kL_run p l e _ s mm _ below meth c _ 12 _ _ _ _ _ _ _
  refine lr_astore_nC (pc := 12) (i := 3) F dL_run_12 rfl (by decide) rfl ?_
  refine lr_iconst (pc := 13) (v := 1) F dL_run_13 rfl ?_
  exact lr_iret (pc := 14) F hrt B.notSynchronized dL_run_14 (Nat.le_of_eq (Nat.zero_add _)) (Nat.le_of_eq (Nat.zero_add _)) (fun t hR hF => ⟨⟨rfl, n9, hR⟩, hF⟩)
theorem dL_play_0 : decode cL_play 0 = .ok (.aload_n 1, 1) := by decide +kernel
theorem dL_play_1 : decode cL_play 1 = .ok (.iconst 0, 1) := by decide +kernel
theorem dL_play_2 : decode cL_play 2 = .ok (.aload_n 0, 1) := by decide +kernel
theorem dL_play_3 : decode cL_play 3 = .ok (.invokevirtual 27, 3) := by decide +kernel
theorem dL_play_6 : decode cL_play 6 = .ok (.i2l, 1) := by decide +kernel
theorem dL_play_7 : decode cL_play 7 = .ok (.lastore, 1) := by decide +kernel
theorem dL_play_8 : decode cL_play 8 = .ok (.goto 6, 3) := by decide +kernel
theorem dL_play_11 : decode cL_play 11 = .ok (.astore_n 2, 1) := by decide +kernel
theorem dL_play_12 : decode cL_play 12 = .ok (.iconst 1, 1) := by decide +kernel
theorem dL_play_13 : decode cL_play 13 = .ok (.ireturn, 1) := by decide +kernel
theorem dL_play_14 : decode cL_play 14 = .ok (.iconst 0, 1) := by decide +kernel
theorem dL_play_15 : decode cL_play 15 = .ok (.ireturn, 1) := by decide +kernel
abbrev kL_play : Mt := (yL_play, cL_play, 3, some .int, 9, 236)
theorem cw_play : CW kL_play [(0, 8, 11, 13)] 2 := ⟨m_1172, m_123, by decide, by decide, by decide +kernel, m_1171⟩
theorem ml0_play (l : Launch) (X : Cx) (hl : l.stackTraces = false) {h m ot h1 : AH} {v : Int32} (hf : f_X10_play h 1 = some (some v, h1)) (hs : hS h 1 = 9) (ho : hS ot 277 = 22) (hn : hN ot 277 = 1) : Met l kL_play.1 (wsw kL_play [(0, 8, 11, 13)]) (rmk kL_play h h1) (va_Pc [rf X 1, rf X 277] (W3 X h m ot)) (QL0 X v h1 m ot) (hZ h1 - hZ h) (hV h1 - hV h) (xAr X) := by
  refine va_MetW (cc := kL_play.2.1) (maxL := kL_play.2.2.1) (ret := kL_play.2.2.2.1) (hh := [(0, 8, 11, 13)]) (by decide) rfl ?_
  intro p e s mm args below meth c s₁ B hml hP
  obtain ⟨rfl, hR, hK, hSx⟩ := hP
  have hts := atoms_spec (ws := wsw kL_play [(0, 8, 11, 13)]) B.pre
  have F : QF X kL_play p s mm ([rf X 1, rf X 277] : List Value).toArray c := ⟨B.exec, B.bytes, hml, findClass_of_methodNamed B.named, fun w hw => hts w (List.mem_cons_of_mem _ hw), hK, hSx⟩
  have hin := lv_entry ([rf X 1, rf X 277] : List Value) (n := kL_play.2.2.1) (by simp [lg_sl, rf_cat, ca_i, ca_l, ca_r])
  rw [show lv_args 0 ([rf X 1, rf X 277] : List Value) = [(0, rf X 1), (1, rf X 277)] by simp [lv_args, rf_cat, ca_i, ca_l, ca_r]] at hin
  rw [lg_entry_eq]
  have hrt : meth.sig.returnType = some .int := B.returns
  refine LW.use (X := X) (k := kL_play) ?_ va_S.rf hR hin
  refine lr_aload_n (pc := 0) (i := 1) F 1 dL_play_0 rfl rfl ?_
  refine lr_iconst (pc := 1) (v := 0) F dL_play_1 rfl ?_
  refine lr_aload_n (pc := 2) (i := 0) F 0 dL_play_2 rfl rfl ?_
  refine lr_callC (pc := 3) (ci := 8) (o := 1) (av := []) (st := [.int 0, rf X 277]) F dL_play_3 ck_X10_play m_1173 m_1174 m_1175 rfl (by decide) hs (Nat.le_refl _) (Nat.le_refl _) rfl (by simp [rf_cat, ca_i, ca_l, ca_r]) (ctr_X10_play l X hl hf) rfl rfl rfl (Nat.le_of_eq (Nat.zero_add _)) (Nat.le_of_eq (Nat.zero_add _)) ?_
  refine lr_i2l (pc := 6) F dL_play_6 ?_
  refine lr_last (pc := 7) F ho (by rw [hn]; rfl) dL_play_7 ?_
  refine lr_goto (pc := 8) (tgt := 14) F dL_play_8 rfl ?_
  refine lr_iconst (pc := 14) (v := 0) F dL_play_14 rfl ?_
  exact lr_iret (pc := 15) F hrt B.notSynchronized dL_play_15 (Nat.le_of_eq (Nat.zero_add _)) (Nat.le_of_eq (Nat.zero_add _)) (fun t hR hF => ⟨⟨rfl, hR⟩, hF⟩)
theorem ml1_play (l : Launch) (X : Cx) (hl : l.stackTraces = false) {h m ot h1 : AH} (hf : f_X10_play h 1 = some (none, h1)) (hs : hS h 1 = 9) (ho : hS ot 277 = 22) (hn : hN ot 277 = 1) : Met l kL_play.1 (wsw kL_play [(0, 8, 11, 13)]) (rmk kL_play h h1) (va_Pc [rf X 1, rf X 277] (W3 X h m ot)) (QL1 X h1 m ot) (hZ h1 - hZ h) (hV h1 - hV h) (xAr X) := by
  refine va_MetW (cc := kL_play.2.1) (maxL := kL_play.2.2.1) (ret := kL_play.2.2.2.1) (hh := [(0, 8, 11, 13)]) (by decide) rfl ?_
  intro p e s mm args below meth c s₁ B hml hP
  obtain ⟨rfl, hR, hK, hSx⟩ := hP
  have hts := atoms_spec (ws := wsw kL_play [(0, 8, 11, 13)]) B.pre
  have F : QF X kL_play p s mm ([rf X 1, rf X 277] : List Value).toArray c := ⟨B.exec, B.bytes, hml, findClass_of_methodNamed B.named, fun w hw => hts w (List.mem_cons_of_mem _ hw), hK, hSx⟩
  have hin := lv_entry ([rf X 1, rf X 277] : List Value) (n := kL_play.2.2.1) (by simp [lg_sl, rf_cat, ca_i, ca_l, ca_r])
  rw [show lv_args 0 ([rf X 1, rf X 277] : List Value) = [(0, rf X 1), (1, rf X 277)] by simp [lv_args, rf_cat, ca_i, ca_l, ca_r]] at hin
  rw [lg_entry_eq]
  have hrt : meth.sig.returnType = some .int := B.returns
  refine LW.use (X := X) (k := kL_play) ?_ va_S.rf hR hin
  refine lr_aload_n (pc := 0) (i := 1) F 1 dL_play_0 rfl rfl ?_
  refine lr_iconst (pc := 1) (v := 0) F dL_play_1 rfl ?_
  refine lr_aload_n (pc := 2) (i := 0) F 0 dL_play_2 rfl rfl ?_
  refine lr_callX (pc := 3) (ci := 8) (o := 1) (av := []) (st := [.int 0, rf X 277]) ⟨0, 8, 11, 13⟩ F dL_play_3 ck_X10_play m_1173 m_1174 m_1175 rfl (by decide) hs (Nat.le_refl _) (Nat.le_refl _) rfl (by simp [rf_cat, ca_i, ca_l, ca_r]) (ctx_X10_play l X hl hf) rfl rfl rfl (Nat.le_of_eq (Nat.zero_add _)) (Nat.le_of_eq (Nat.zero_add _)) (vx_table (x := kL_play.1) B (hts _ List.mem_cons_self)) rfl (by decide) m_717 (by decide) (fun n9 q9 => ?_)
  show LW X kL_play p l e _ s mm _ below meth c _ 11 _ _ _ _ _ _ _
  refine lr_astore_nC (pc := 11) (i := 2) F dL_play_11 rfl (by decide) rfl ?_
  refine lr_iconst (pc := 12) (v := 1) F dL_play_12 rfl ?_
  exact lr_iret (pc := 13) F hrt B.notSynchronized dL_play_13 (Nat.le_of_eq (Nat.zero_add _)) (Nat.le_of_eq (Nat.zero_add _)) (fun t hR hF => ⟨⟨rfl, n9, hR⟩, hF⟩)
theorem dL_trace_0 : decode cL_trace 0 = .ok (.aload 4, 2) := by decide +kernel
theorem dL_trace_2 : decode cL_trace 2 = .ok (.iconst 0, 1) := by decide +kernel
theorem dL_trace_3 : decode cL_trace 3 = .ok (.aload_n 0, 1) := by decide +kernel
theorem dL_trace_4 : decode cL_trace 4 = .ok (.iload_n 1, 1) := by decide +kernel
theorem dL_trace_5 : decode cL_trace 5 = .ok (.iload_n 2, 1) := by decide +kernel
theorem dL_trace_6 : decode cL_trace 6 = .ok (.iload_n 3, 1) := by decide +kernel
theorem dL_trace_7 : decode cL_trace 7 = .ok (.invokevirtual 30, 3) := by decide +kernel
theorem dL_trace_10 : decode cL_trace 10 = .ok (.i2l, 1) := by decide +kernel
theorem dL_trace_11 : decode cL_trace 11 = .ok (.lastore, 1) := by decide +kernel
theorem dL_trace_12 : decode cL_trace 12 = .ok (.goto 7, 3) := by decide +kernel
theorem dL_trace_15 : decode cL_trace 15 = .ok (.astore 5, 2) := by decide +kernel
theorem dL_trace_17 : decode cL_trace 17 = .ok (.iconst 1, 1) := by decide +kernel
theorem dL_trace_18 : decode cL_trace 18 = .ok (.ireturn, 1) := by decide +kernel
theorem dL_trace_19 : decode cL_trace 19 = .ok (.iconst 0, 1) := by decide +kernel
theorem dL_trace_20 : decode cL_trace 20 = .ok (.ireturn, 1) := by decide +kernel
abbrev kL_trace : Mt := (yL_trace, cL_trace, 6, some .int, 7, 223)
theorem cw_trace : CW kL_trace [(0, 12, 15, 34)] 5 := ⟨m_1201, m_123, by decide, by decide, by decide +kernel, m_1200⟩
theorem ml0_trace (l : Launch) (X : Cx) (hl : l.stackTraces = false) {h m ot h1 : AH} {x0 x1 x2 : Int32} {v : Int32} (hf : f_X10_trace h 1 x0 x1 x2 = some (some v, h1)) (hs : hS h 1 = 9) (ho : hS ot 277 = 22) (hn : hN ot 277 = 1) : Met l kL_trace.1 (wsw kL_trace [(0, 12, 15, 34)]) (rmk kL_trace h h1) (va_Pc [rf X 1, .int x0, .int x1, .int x2, rf X 277] (W3 X h m ot)) (QL0 X v h1 m ot) (hZ h1 - hZ h) (hV h1 - hV h) (xAr X) := by
  refine va_MetW (cc := kL_trace.2.1) (maxL := kL_trace.2.2.1) (ret := kL_trace.2.2.2.1) (hh := [(0, 12, 15, 34)]) (by decide) rfl ?_
  intro p e s mm args below meth c s₁ B hml hP
  obtain ⟨rfl, hR, hK, hSx⟩ := hP
  have hts := atoms_spec (ws := wsw kL_trace [(0, 12, 15, 34)]) B.pre
  have F : QF X kL_trace p s mm ([rf X 1, .int x0, .int x1, .int x2, rf X 277] : List Value).toArray c := ⟨B.exec, B.bytes, hml, findClass_of_methodNamed B.named, fun w hw => hts w (List.mem_cons_of_mem _ hw), hK, hSx⟩
  have hin := lv_entry ([rf X 1, .int x0, .int x1, .int x2, rf X 277] : List Value) (n := kL_trace.2.2.1) (by simp [lg_sl, rf_cat, ca_i, ca_l, ca_r])
  rw [show lv_args 0 ([rf X 1, .int x0, .int x1, .int x2, rf X 277] : List Value) = [(0, rf X 1), (1, .int x0), (2, .int x1), (3, .int x2), (4, rf X 277)] by simp [lv_args, rf_cat, ca_i, ca_l, ca_r]] at hin
  rw [lg_entry_eq]
  have hrt : meth.sig.returnType = some .int := B.returns
  refine LW.use (X := X) (k := kL_trace) ?_ va_S.rf hR hin
  refine lr_aload (pc := 0) (i := 4) F 4 dL_trace_0 rfl ?_
  refine lr_iconst (pc := 2) (v := 0) F dL_trace_2 rfl ?_
  refine lr_aload_n (pc := 3) (i := 0) F 0 dL_trace_3 rfl rfl ?_
  refine lr_iload_n (pc := 4) (i := 1) F 1 dL_trace_4 rfl rfl ?_
  refine lr_iload_n (pc := 5) (i := 2) F 2 dL_trace_5 rfl rfl ?_
  refine lr_iload_n (pc := 6) (i := 3) F 3 dL_trace_6 rfl rfl ?_
  refine lr_callC (pc := 7) (ci := 8) (o := 1) (av := [.int x0, .int x1, .int x2]) (st := [.int 0, rf X 277]) F dL_trace_7 ck_X10_trace m_1203 m_1204 m_1205 rfl (by decide) hs (Nat.le_refl _) (Nat.le_refl _) rfl (by simp [rf_cat, ca_i, ca_l, ca_r]) (ctr_X10_trace l X hl hf) rfl rfl rfl (Nat.le_of_eq (Nat.zero_add _)) (Nat.le_of_eq (Nat.zero_add _)) ?_
  refine lr_i2l (pc := 10) F dL_trace_10 ?_
  refine lr_last (pc := 11) F ho (by rw [hn]; rfl) dL_trace_11 ?_
  refine lr_goto (pc := 12) (tgt := 19) F dL_trace_12 rfl ?_
  refine lr_iconst (pc := 19) (v := 0) F dL_trace_19 rfl ?_
  exact lr_iret (pc := 20) F hrt B.notSynchronized dL_trace_20 (Nat.le_of_eq (Nat.zero_add _)) (Nat.le_of_eq (Nat.zero_add _)) (fun t hR hF => ⟨⟨rfl, hR⟩, hF⟩)
theorem ml1_trace (l : Launch) (X : Cx) (hl : l.stackTraces = false) {h m ot h1 : AH} {x0 x1 x2 : Int32} (hf : f_X10_trace h 1 x0 x1 x2 = some (none, h1)) (hs : hS h 1 = 9) (ho : hS ot 277 = 22) (hn : hN ot 277 = 1) : Met l kL_trace.1 (wsw kL_trace [(0, 12, 15, 34)]) (rmk kL_trace h h1) (va_Pc [rf X 1, .int x0, .int x1, .int x2, rf X 277] (W3 X h m ot)) (QL1 X h1 m ot) (hZ h1 - hZ h) (hV h1 - hV h) (xAr X) := by
  refine va_MetW (cc := kL_trace.2.1) (maxL := kL_trace.2.2.1) (ret := kL_trace.2.2.2.1) (hh := [(0, 12, 15, 34)]) (by decide) rfl ?_
  intro p e s mm args below meth c s₁ B hml hP
  obtain ⟨rfl, hR, hK, hSx⟩ := hP
  have hts := atoms_spec (ws := wsw kL_trace [(0, 12, 15, 34)]) B.pre
  have F : QF X kL_trace p s mm ([rf X 1, .int x0, .int x1, .int x2, rf X 277] : List Value).toArray c := ⟨B.exec, B.bytes, hml, findClass_of_methodNamed B.named, fun w hw => hts w (List.mem_cons_of_mem _ hw), hK, hSx⟩
  have hin := lv_entry ([rf X 1, .int x0, .int x1, .int x2, rf X 277] : List Value) (n := kL_trace.2.2.1) (by simp [lg_sl, rf_cat, ca_i, ca_l, ca_r])
  rw [show lv_args 0 ([rf X 1, .int x0, .int x1, .int x2, rf X 277] : List Value) = [(0, rf X 1), (1, .int x0), (2, .int x1), (3, .int x2), (4, rf X 277)] by simp [lv_args, rf_cat, ca_i, ca_l, ca_r]] at hin
  rw [lg_entry_eq]
  have hrt : meth.sig.returnType = some .int := B.returns
  refine LW.use (X := X) (k := kL_trace) ?_ va_S.rf hR hin
  refine lr_aload (pc := 0) (i := 4) F 4 dL_trace_0 rfl ?_
  refine lr_iconst (pc := 2) (v := 0) F dL_trace_2 rfl ?_
  refine lr_aload_n (pc := 3) (i := 0) F 0 dL_trace_3 rfl rfl ?_
  refine lr_iload_n (pc := 4) (i := 1) F 1 dL_trace_4 rfl rfl ?_
  refine lr_iload_n (pc := 5) (i := 2) F 2 dL_trace_5 rfl rfl ?_
  refine lr_iload_n (pc := 6) (i := 3) F 3 dL_trace_6 rfl rfl ?_
  refine lr_callX (pc := 7) (ci := 8) (o := 1) (av := [.int x0, .int x1, .int x2]) (st := [.int 0, rf X 277]) ⟨0, 12, 15, 34⟩ F dL_trace_7 ck_X10_trace m_1203 m_1204 m_1205 rfl (by decide) hs (Nat.le_refl _) (Nat.le_refl _) rfl (by simp [rf_cat, ca_i, ca_l, ca_r]) (ctx_X10_trace l X hl hf) rfl rfl rfl (Nat.le_of_eq (Nat.zero_add _)) (Nat.le_of_eq (Nat.zero_add _)) (vx_table (x := kL_trace.1) B (hts _ List.mem_cons_self)) rfl (by decide) m_1202 (by decide) (fun n9 q9 => ?_)
  show LW X kL_trace p l e _ s mm _ below meth c _ 15 _ _ _ _ _ _ _
  refine lr_astoreC (pc := 15) (i := 5) F dL_trace_15 (by decide) rfl ?_
  refine lr_iconst (pc := 17) (v := 1) F dL_trace_17 rfl ?_
  exact lr_iret (pc := 18) F hrt B.notSynchronized dL_trace_18 (Nat.le_of_eq (Nat.zero_add _)) (Nat.le_of_eq (Nat.zero_add _)) (fun t hR hF => ⟨⟨rfl, n9, hR⟩, hF⟩)
theorem dL_core_0 : decode cL_core 0 = .ok (.aload_n 3, 1) := by decide +kernel
theorem dL_core_1 : decode cL_core 1 = .ok (.iconst 0, 1) := by decide +kernel
theorem dL_core_2 : decode cL_core 2 = .ok (.aload_n 0, 1) := by decide +kernel
theorem dL_core_3 : decode cL_core 3 = .ok (.iload_n 1, 1) := by decide +kernel
theorem dL_core_4 : decode cL_core 4 = .ok (.iload_n 2, 1) := by decide +kernel
theorem dL_core_5 : decode cL_core 5 = .ok (.invokevirtual 36, 3) := by decide +kernel
theorem dL_core_8 : decode cL_core 8 = .ok (.i2l, 1) := by decide +kernel
theorem dL_core_9 : decode cL_core 9 = .ok (.lastore, 1) := by decide +kernel
theorem dL_core_10 : decode cL_core 10 = .ok (.goto 7, 3) := by decide +kernel
theorem dL_core_13 : decode cL_core 13 = .ok (.astore 4, 2) := by decide +kernel
theorem dL_core_15 : decode cL_core 15 = .ok (.iconst 1, 1) := by decide +kernel
theorem dL_core_16 : decode cL_core 16 = .ok (.ireturn, 1) := by decide +kernel
theorem dL_core_17 : decode cL_core 17 = .ok (.iconst 0, 1) := by decide +kernel
theorem dL_core_18 : decode cL_core 18 = .ok (.ireturn, 1) := by decide +kernel
abbrev kL_core : Mt := (yL_core, cL_core, 5, some .int, 7, 222)
theorem cw_core : CW kL_core [(0, 10, 13, 34)] 4 := ⟨m_1233, m_123, by decide, by decide, by decide +kernel, m_1232⟩
theorem ml0_core (l : Launch) (X : Cx) (hl : l.stackTraces = false) {h m ot h1 : AH} {x0 x1 : Int32} {v : Int32} (hf : f_X10_core h 1 x0 x1 = some (some v, h1)) (hs : hS h 1 = 9) (ho : hS ot 277 = 22) (hn : hN ot 277 = 1) : Met l kL_core.1 (wsw kL_core [(0, 10, 13, 34)]) (rmk kL_core h h1) (va_Pc [rf X 1, .int x0, .int x1, rf X 277] (W3 X h m ot)) (QL0 X v h1 m ot) (hZ h1 - hZ h) (hV h1 - hV h) (xAr X) := by
  refine va_MetW (cc := kL_core.2.1) (maxL := kL_core.2.2.1) (ret := kL_core.2.2.2.1) (hh := [(0, 10, 13, 34)]) (by decide) rfl ?_
  intro p e s mm args below meth c s₁ B hml hP
  obtain ⟨rfl, hR, hK, hSx⟩ := hP
  have hts := atoms_spec (ws := wsw kL_core [(0, 10, 13, 34)]) B.pre
  have F : QF X kL_core p s mm ([rf X 1, .int x0, .int x1, rf X 277] : List Value).toArray c := ⟨B.exec, B.bytes, hml, findClass_of_methodNamed B.named, fun w hw => hts w (List.mem_cons_of_mem _ hw), hK, hSx⟩
  have hin := lv_entry ([rf X 1, .int x0, .int x1, rf X 277] : List Value) (n := kL_core.2.2.1) (by simp [lg_sl, rf_cat, ca_i, ca_l, ca_r])
  rw [show lv_args 0 ([rf X 1, .int x0, .int x1, rf X 277] : List Value) = [(0, rf X 1), (1, .int x0), (2, .int x1), (3, rf X 277)] by simp [lv_args, rf_cat, ca_i, ca_l, ca_r]] at hin
  rw [lg_entry_eq]
  have hrt : meth.sig.returnType = some .int := B.returns
  refine LW.use (X := X) (k := kL_core) ?_ va_S.rf hR hin
  refine lr_aload_n (pc := 0) (i := 3) F 3 dL_core_0 rfl rfl ?_
  refine lr_iconst (pc := 1) (v := 0) F dL_core_1 rfl ?_
  refine lr_aload_n (pc := 2) (i := 0) F 0 dL_core_2 rfl rfl ?_
  refine lr_iload_n (pc := 3) (i := 1) F 1 dL_core_3 rfl rfl ?_
  refine lr_iload_n (pc := 4) (i := 2) F 2 dL_core_4 rfl rfl ?_
  refine lr_callC (pc := 5) (ci := 8) (o := 1) (av := [.int x0, .int x1]) (st := [.int 0, rf X 277]) F dL_core_5 ck_X10_core m_1234 m_1235 m_1236 rfl (by decide) hs (Nat.le_refl _) (Nat.le_refl _) rfl (by simp [rf_cat, ca_i, ca_l, ca_r]) (ctr_X10_core l X hl hf) rfl rfl rfl (Nat.le_of_eq (Nat.zero_add _)) (Nat.le_of_eq (Nat.zero_add _)) ?_
  refine lr_i2l (pc := 8) F dL_core_8 ?_
  refine lr_last (pc := 9) F ho (by rw [hn]; rfl) dL_core_9 ?_
  refine lr_goto (pc := 10) (tgt := 17) F dL_core_10 rfl ?_
  refine lr_iconst (pc := 17) (v := 0) F dL_core_17 rfl ?_
  exact lr_iret (pc := 18) F hrt B.notSynchronized dL_core_18 (Nat.le_of_eq (Nat.zero_add _)) (Nat.le_of_eq (Nat.zero_add _)) (fun t hR hF => ⟨⟨rfl, hR⟩, hF⟩)
theorem ml1_core (l : Launch) (X : Cx) (hl : l.stackTraces = false) {h m ot h1 : AH} {x0 x1 : Int32} (hf : f_X10_core h 1 x0 x1 = some (none, h1)) (hs : hS h 1 = 9) (ho : hS ot 277 = 22) (hn : hN ot 277 = 1) : Met l kL_core.1 (wsw kL_core [(0, 10, 13, 34)]) (rmk kL_core h h1) (va_Pc [rf X 1, .int x0, .int x1, rf X 277] (W3 X h m ot)) (QL1 X h1 m ot) (hZ h1 - hZ h) (hV h1 - hV h) (xAr X) := by
  refine va_MetW (cc := kL_core.2.1) (maxL := kL_core.2.2.1) (ret := kL_core.2.2.2.1) (hh := [(0, 10, 13, 34)]) (by decide) rfl ?_
  intro p e s mm args below meth c s₁ B hml hP
  obtain ⟨rfl, hR, hK, hSx⟩ := hP
  have hts := atoms_spec (ws := wsw kL_core [(0, 10, 13, 34)]) B.pre
  have F : QF X kL_core p s mm ([rf X 1, .int x0, .int x1, rf X 277] : List Value).toArray c := ⟨B.exec, B.bytes, hml, findClass_of_methodNamed B.named, fun w hw => hts w (List.mem_cons_of_mem _ hw), hK, hSx⟩
  have hin := lv_entry ([rf X 1, .int x0, .int x1, rf X 277] : List Value) (n := kL_core.2.2.1) (by simp [lg_sl, rf_cat, ca_i, ca_l, ca_r])
  rw [show lv_args 0 ([rf X 1, .int x0, .int x1, rf X 277] : List Value) = [(0, rf X 1), (1, .int x0), (2, .int x1), (3, rf X 277)] by simp [lv_args, rf_cat, ca_i, ca_l, ca_r]] at hin
  rw [lg_entry_eq]
  have hrt : meth.sig.returnType = some .int := B.returns
  refine LW.use (X := X) (k := kL_core) ?_ va_S.rf hR hin
  refine lr_aload_n (pc := 0) (i := 3) F 3 dL_core_0 rfl rfl ?_
  refine lr_iconst (pc := 1) (v := 0) F dL_core_1 rfl ?_
  refine lr_aload_n (pc := 2) (i := 0) F 0 dL_core_2 rfl rfl ?_
  refine lr_iload_n (pc := 3) (i := 1) F 1 dL_core_3 rfl rfl ?_
  refine lr_iload_n (pc := 4) (i := 2) F 2 dL_core_4 rfl rfl ?_
  refine lr_callX (pc := 5) (ci := 8) (o := 1) (av := [.int x0, .int x1]) (st := [.int 0, rf X 277]) ⟨0, 10, 13, 34⟩ F dL_core_5 ck_X10_core m_1234 m_1235 m_1236 rfl (by decide) hs (Nat.le_refl _) (Nat.le_refl _) rfl (by simp [rf_cat, ca_i, ca_l, ca_r]) (ctx_X10_core l X hl hf) rfl rfl rfl (Nat.le_of_eq (Nat.zero_add _)) (Nat.le_of_eq (Nat.zero_add _)) (vx_table (x := kL_core.1) B (hts _ List.mem_cons_self)) rfl (by decide) m_1202 (by decide) (fun n9 q9 => ?_)
  show LW X kL_core p l e _ s mm _ below meth c _ 13 _ _ _ _ _ _ _
  refine lr_astoreC (pc := 13) (i := 4) F dL_core_13 (by decide) rfl ?_
  refine lr_iconst (pc := 15) (v := 1) F dL_core_15 rfl ?_
  exact lr_iret (pc := 16) F hrt B.notSynchronized dL_core_16 (Nat.le_of_eq (Nat.zero_add _)) (Nat.le_of_eq (Nat.zero_add _)) (fun t hR hF => ⟨⟨rfl, n9, hR⟩, hF⟩)
theorem dL_copy_0 : decode cL_copy 0 = .ok (.aload_n 3, 1) := by decide +kernel
theorem dL_copy_1 : decode cL_copy 1 = .ok (.iconst 0, 1) := by decide +kernel
theorem dL_copy_2 : decode cL_copy 2 = .ok (.aload_n 0, 1) := by decide +kernel
theorem dL_copy_3 : decode cL_copy 3 = .ok (.iload_n 1, 1) := by decide +kernel
theorem dL_copy_4 : decode cL_copy 4 = .ok (.iload_n 2, 1) := by decide +kernel
theorem dL_copy_5 : decode cL_copy 5 = .ok (.invokevirtual 40, 3) := by decide +kernel
theorem dL_copy_8 : decode cL_copy 8 = .ok (.i2l, 1) := by decide +kernel
theorem dL_copy_9 : decode cL_copy 9 = .ok (.lastore, 1) := by decide +kernel
theorem dL_copy_10 : decode cL_copy 10 = .ok (.goto 7, 3) := by decide +kernel
theorem dL_copy_13 : decode cL_copy 13 = .ok (.astore 4, 2) := by decide +kernel
theorem dL_copy_15 : decode cL_copy 15 = .ok (.iconst 1, 1) := by decide +kernel
theorem dL_copy_16 : decode cL_copy 16 = .ok (.ireturn, 1) := by decide +kernel
theorem dL_copy_17 : decode cL_copy 17 = .ok (.iconst 0, 1) := by decide +kernel
theorem dL_copy_18 : decode cL_copy 18 = .ok (.ireturn, 1) := by decide +kernel
abbrev kL_copy : Mt := (yL_copy, cL_copy, 5, some .int, 7, 223)
theorem cw_copy : CW kL_copy [(0, 10, 13, 34)] 4 := ⟨m_1249, m_123, by decide, by decide, by decide +kernel, m_1248⟩
theorem ml0_copy (l : Launch) (X : Cx) (hl : l.stackTraces = false) {h m ot h1 : AH} {x0 x1 : Int32} {v : Int32} (hf : f_X10_copy h 1 x0 x1 = some (some v, h1)) (hs : hS h 1 = 9) (ho : hS ot 277 = 22) (hn : hN ot 277 = 1) : Met l kL_copy.1 (wsw kL_copy [(0, 10, 13, 34)]) (rmk kL_copy h h1) (va_Pc [rf X 1, .int x0, .int x1, rf X 277] (W3 X h m ot)) (QL0 X v h1 m ot) (hZ h1 - hZ h) (hV h1 - hV h) (xAr X) := by
  refine va_MetW (cc := kL_copy.2.1) (maxL := kL_copy.2.2.1) (ret := kL_copy.2.2.2.1) (hh := [(0, 10, 13, 34)]) (by decide) rfl ?_
  intro p e s mm args below meth c s₁ B hml hP
  obtain ⟨rfl, hR, hK, hSx⟩ := hP
  have hts := atoms_spec (ws := wsw kL_copy [(0, 10, 13, 34)]) B.pre
  have F : QF X kL_copy p s mm ([rf X 1, .int x0, .int x1, rf X 277] : List Value).toArray c := ⟨B.exec, B.bytes, hml, findClass_of_methodNamed B.named, fun w hw => hts w (List.mem_cons_of_mem _ hw), hK, hSx⟩
  have hin := lv_entry ([rf X 1, .int x0, .int x1, rf X 277] : List Value) (n := kL_copy.2.2.1) (by simp [lg_sl, rf_cat, ca_i, ca_l, ca_r])
  rw [show lv_args 0 ([rf X 1, .int x0, .int x1, rf X 277] : List Value) = [(0, rf X 1), (1, .int x0), (2, .int x1), (3, rf X 277)] by simp [lv_args, rf_cat, ca_i, ca_l, ca_r]] at hin
  rw [lg_entry_eq]
  have hrt : meth.sig.returnType = some .int := B.returns
  refine LW.use (X := X) (k := kL_copy) ?_ va_S.rf hR hin
  refine lr_aload_n (pc := 0) (i := 3) F 3 dL_copy_0 rfl rfl ?_
  refine lr_iconst (pc := 1) (v := 0) F dL_copy_1 rfl ?_
  refine lr_aload_n (pc := 2) (i := 0) F 0 dL_copy_2 rfl rfl ?_
  refine lr_iload_n (pc := 3) (i := 1) F 1 dL_copy_3 rfl rfl ?_
  refine lr_iload_n (pc := 4) (i := 2) F 2 dL_copy_4 rfl rfl ?_
  refine lr_callC (pc := 5) (ci := 8) (o := 1) (av := [.int x0, .int x1]) (st := [.int 0, rf X 277]) F dL_copy_5 ck_X10_copy m_1250 m_1251 m_1252 rfl (by decide) hs (Nat.le_refl _) (Nat.le_refl _) rfl (by simp [rf_cat, ca_i, ca_l, ca_r]) (ctr_X10_copy l X hl hf) rfl rfl rfl (Nat.le_of_eq (Nat.zero_add _)) (Nat.le_of_eq (Nat.zero_add _)) ?_
  refine lr_i2l (pc := 8) F dL_copy_8 ?_
  refine lr_last (pc := 9) F ho (by rw [hn]; rfl) dL_copy_9 ?_
  refine lr_goto (pc := 10) (tgt := 17) F dL_copy_10 rfl ?_
  refine lr_iconst (pc := 17) (v := 0) F dL_copy_17 rfl ?_
  exact lr_iret (pc := 18) F hrt B.notSynchronized dL_copy_18 (Nat.le_of_eq (Nat.zero_add _)) (Nat.le_of_eq (Nat.zero_add _)) (fun t hR hF => ⟨⟨rfl, hR⟩, hF⟩)
theorem ml1_copy (l : Launch) (X : Cx) (hl : l.stackTraces = false) {h m ot h1 : AH} {x0 x1 : Int32} (hf : f_X10_copy h 1 x0 x1 = some (none, h1)) (hs : hS h 1 = 9) (ho : hS ot 277 = 22) (hn : hN ot 277 = 1) : Met l kL_copy.1 (wsw kL_copy [(0, 10, 13, 34)]) (rmk kL_copy h h1) (va_Pc [rf X 1, .int x0, .int x1, rf X 277] (W3 X h m ot)) (QL1 X h1 m ot) (hZ h1 - hZ h) (hV h1 - hV h) (xAr X) := by
  refine va_MetW (cc := kL_copy.2.1) (maxL := kL_copy.2.2.1) (ret := kL_copy.2.2.2.1) (hh := [(0, 10, 13, 34)]) (by decide) rfl ?_
  intro p e s mm args below meth c s₁ B hml hP
  obtain ⟨rfl, hR, hK, hSx⟩ := hP
  have hts := atoms_spec (ws := wsw kL_copy [(0, 10, 13, 34)]) B.pre
  have F : QF X kL_copy p s mm ([rf X 1, .int x0, .int x1, rf X 277] : List Value).toArray c := ⟨B.exec, B.bytes, hml, findClass_of_methodNamed B.named, fun w hw => hts w (List.mem_cons_of_mem _ hw), hK, hSx⟩
  have hin := lv_entry ([rf X 1, .int x0, .int x1, rf X 277] : List Value) (n := kL_copy.2.2.1) (by simp [lg_sl, rf_cat, ca_i, ca_l, ca_r])
  rw [show lv_args 0 ([rf X 1, .int x0, .int x1, rf X 277] : List Value) = [(0, rf X 1), (1, .int x0), (2, .int x1), (3, rf X 277)] by simp [lv_args, rf_cat, ca_i, ca_l, ca_r]] at hin
  rw [lg_entry_eq]
  have hrt : meth.sig.returnType = some .int := B.returns
  refine LW.use (X := X) (k := kL_copy) ?_ va_S.rf hR hin
  refine lr_aload_n (pc := 0) (i := 3) F 3 dL_copy_0 rfl rfl ?_
  refine lr_iconst (pc := 1) (v := 0) F dL_copy_1 rfl ?_
  refine lr_aload_n (pc := 2) (i := 0) F 0 dL_copy_2 rfl rfl ?_
  refine lr_iload_n (pc := 3) (i := 1) F 1 dL_copy_3 rfl rfl ?_
  refine lr_iload_n (pc := 4) (i := 2) F 2 dL_copy_4 rfl rfl ?_
  refine lr_callX (pc := 5) (ci := 8) (o := 1) (av := [.int x0, .int x1]) (st := [.int 0, rf X 277]) ⟨0, 10, 13, 34⟩ F dL_copy_5 ck_X10_copy m_1250 m_1251 m_1252 rfl (by decide) hs (Nat.le_refl _) (Nat.le_refl _) rfl (by simp [rf_cat, ca_i, ca_l, ca_r]) (ctx_X10_copy l X hl hf) rfl rfl rfl (Nat.le_of_eq (Nat.zero_add _)) (Nat.le_of_eq (Nat.zero_add _)) (vx_table (x := kL_copy.1) B (hts _ List.mem_cons_self)) rfl (by decide) m_1202 (by decide) (fun n9 q9 => ?_)
  show LW X kL_copy p l e _ s mm _ below meth c _ 13 _ _ _ _ _ _ _
  refine lr_astoreC (pc := 13) (i := 4) F dL_copy_13 (by decide) rfl ?_
  refine lr_iconst (pc := 15) (v := 1) F dL_copy_15 rfl ?_
  exact lr_iret (pc := 16) F hrt B.notSynchronized dL_copy_16 (Nat.le_of_eq (Nat.zero_add _)) (Nat.le_of_eq (Nat.zero_add _)) (fun t hR hF => ⟨⟨rfl, n9, hR⟩, hF⟩)
theorem dL_home_0 : decode cL_home 0 = .ok (.aload_n 3, 1) := by decide +kernel
theorem dL_home_1 : decode cL_home 1 = .ok (.iconst 0, 1) := by decide +kernel
theorem dL_home_2 : decode cL_home 2 = .ok (.aload_n 0, 1) := by decide +kernel
theorem dL_home_3 : decode cL_home 3 = .ok (.iload_n 1, 1) := by decide +kernel
theorem dL_home_4 : decode cL_home 4 = .ok (.iload_n 2, 1) := by decide +kernel
theorem dL_home_5 : decode cL_home 5 = .ok (.invokevirtual 43, 3) := by decide +kernel
theorem dL_home_8 : decode cL_home 8 = .ok (.i2l, 1) := by decide +kernel
theorem dL_home_9 : decode cL_home 9 = .ok (.lastore, 1) := by decide +kernel
theorem dL_home_10 : decode cL_home 10 = .ok (.goto 7, 3) := by decide +kernel
theorem dL_home_13 : decode cL_home 13 = .ok (.astore 4, 2) := by decide +kernel
theorem dL_home_15 : decode cL_home 15 = .ok (.iconst 1, 1) := by decide +kernel
theorem dL_home_16 : decode cL_home 16 = .ok (.ireturn, 1) := by decide +kernel
theorem dL_home_17 : decode cL_home 17 = .ok (.iconst 0, 1) := by decide +kernel
theorem dL_home_18 : decode cL_home 18 = .ok (.ireturn, 1) := by decide +kernel
abbrev kL_home : Mt := (yL_home, cL_home, 5, some .int, 7, 223)
theorem cw_home : CW kL_home [(0, 10, 13, 34)] 4 := ⟨m_1261, m_123, by decide, by decide, by decide +kernel, m_1260⟩
theorem ml0_home (l : Launch) (X : Cx) (hl : l.stackTraces = false) {h m ot h1 : AH} {x0 x1 : Int32} {v : Int32} (hf : f_X10_home h 1 x0 x1 = some (some v, h1)) (hs : hS h 1 = 9) (ho : hS ot 277 = 22) (hn : hN ot 277 = 1) : Met l kL_home.1 (wsw kL_home [(0, 10, 13, 34)]) (rmk kL_home h h1) (va_Pc [rf X 1, .int x0, .int x1, rf X 277] (W3 X h m ot)) (QL0 X v h1 m ot) (hZ h1 - hZ h) (hV h1 - hV h) (xAr X) := by
  refine va_MetW (cc := kL_home.2.1) (maxL := kL_home.2.2.1) (ret := kL_home.2.2.2.1) (hh := [(0, 10, 13, 34)]) (by decide) rfl ?_
  intro p e s mm args below meth c s₁ B hml hP
  obtain ⟨rfl, hR, hK, hSx⟩ := hP
  have hts := atoms_spec (ws := wsw kL_home [(0, 10, 13, 34)]) B.pre
  have F : QF X kL_home p s mm ([rf X 1, .int x0, .int x1, rf X 277] : List Value).toArray c := ⟨B.exec, B.bytes, hml, findClass_of_methodNamed B.named, fun w hw => hts w (List.mem_cons_of_mem _ hw), hK, hSx⟩
  have hin := lv_entry ([rf X 1, .int x0, .int x1, rf X 277] : List Value) (n := kL_home.2.2.1) (by simp [lg_sl, rf_cat, ca_i, ca_l, ca_r])
  rw [show lv_args 0 ([rf X 1, .int x0, .int x1, rf X 277] : List Value) = [(0, rf X 1), (1, .int x0), (2, .int x1), (3, rf X 277)] by simp [lv_args, rf_cat, ca_i, ca_l, ca_r]] at hin
  rw [lg_entry_eq]
  have hrt : meth.sig.returnType = some .int := B.returns
  refine LW.use (X := X) (k := kL_home) ?_ va_S.rf hR hin
  refine lr_aload_n (pc := 0) (i := 3) F 3 dL_home_0 rfl rfl ?_
  refine lr_iconst (pc := 1) (v := 0) F dL_home_1 rfl ?_
  refine lr_aload_n (pc := 2) (i := 0) F 0 dL_home_2 rfl rfl ?_
  refine lr_iload_n (pc := 3) (i := 1) F 1 dL_home_3 rfl rfl ?_
  refine lr_iload_n (pc := 4) (i := 2) F 2 dL_home_4 rfl rfl ?_
  refine lr_callC (pc := 5) (ci := 8) (o := 1) (av := [.int x0, .int x1]) (st := [.int 0, rf X 277]) F dL_home_5 ck_X10_home m_1262 m_1263 m_1264 rfl (by decide) hs (Nat.le_refl _) (Nat.le_refl _) rfl (by simp [rf_cat, ca_i, ca_l, ca_r]) (ctr_X10_home l X hl hf) rfl rfl rfl (Nat.le_of_eq (Nat.zero_add _)) (Nat.le_of_eq (Nat.zero_add _)) ?_
  refine lr_i2l (pc := 8) F dL_home_8 ?_
  refine lr_last (pc := 9) F ho (by rw [hn]; rfl) dL_home_9 ?_
  refine lr_goto (pc := 10) (tgt := 17) F dL_home_10 rfl ?_
  refine lr_iconst (pc := 17) (v := 0) F dL_home_17 rfl ?_
  exact lr_iret (pc := 18) F hrt B.notSynchronized dL_home_18 (Nat.le_of_eq (Nat.zero_add _)) (Nat.le_of_eq (Nat.zero_add _)) (fun t hR hF => ⟨⟨rfl, hR⟩, hF⟩)
theorem ml1_home (l : Launch) (X : Cx) (hl : l.stackTraces = false) {h m ot h1 : AH} {x0 x1 : Int32} (hf : f_X10_home h 1 x0 x1 = some (none, h1)) (hs : hS h 1 = 9) (ho : hS ot 277 = 22) (hn : hN ot 277 = 1) : Met l kL_home.1 (wsw kL_home [(0, 10, 13, 34)]) (rmk kL_home h h1) (va_Pc [rf X 1, .int x0, .int x1, rf X 277] (W3 X h m ot)) (QL1 X h1 m ot) (hZ h1 - hZ h) (hV h1 - hV h) (xAr X) := by
  refine va_MetW (cc := kL_home.2.1) (maxL := kL_home.2.2.1) (ret := kL_home.2.2.2.1) (hh := [(0, 10, 13, 34)]) (by decide) rfl ?_
  intro p e s mm args below meth c s₁ B hml hP
  obtain ⟨rfl, hR, hK, hSx⟩ := hP
  have hts := atoms_spec (ws := wsw kL_home [(0, 10, 13, 34)]) B.pre
  have F : QF X kL_home p s mm ([rf X 1, .int x0, .int x1, rf X 277] : List Value).toArray c := ⟨B.exec, B.bytes, hml, findClass_of_methodNamed B.named, fun w hw => hts w (List.mem_cons_of_mem _ hw), hK, hSx⟩
  have hin := lv_entry ([rf X 1, .int x0, .int x1, rf X 277] : List Value) (n := kL_home.2.2.1) (by simp [lg_sl, rf_cat, ca_i, ca_l, ca_r])
  rw [show lv_args 0 ([rf X 1, .int x0, .int x1, rf X 277] : List Value) = [(0, rf X 1), (1, .int x0), (2, .int x1), (3, rf X 277)] by simp [lv_args, rf_cat, ca_i, ca_l, ca_r]] at hin
  rw [lg_entry_eq]
  have hrt : meth.sig.returnType = some .int := B.returns
  refine LW.use (X := X) (k := kL_home) ?_ va_S.rf hR hin
  refine lr_aload_n (pc := 0) (i := 3) F 3 dL_home_0 rfl rfl ?_
  refine lr_iconst (pc := 1) (v := 0) F dL_home_1 rfl ?_
  refine lr_aload_n (pc := 2) (i := 0) F 0 dL_home_2 rfl rfl ?_
  refine lr_iload_n (pc := 3) (i := 1) F 1 dL_home_3 rfl rfl ?_
  refine lr_iload_n (pc := 4) (i := 2) F 2 dL_home_4 rfl rfl ?_
  refine lr_callX (pc := 5) (ci := 8) (o := 1) (av := [.int x0, .int x1]) (st := [.int 0, rf X 277]) ⟨0, 10, 13, 34⟩ F dL_home_5 ck_X10_home m_1262 m_1263 m_1264 rfl (by decide) hs (Nat.le_refl _) (Nat.le_refl _) rfl (by simp [rf_cat, ca_i, ca_l, ca_r]) (ctx_X10_home l X hl hf) rfl rfl rfl (Nat.le_of_eq (Nat.zero_add _)) (Nat.le_of_eq (Nat.zero_add _)) (vx_table (x := kL_home.1) B (hts _ List.mem_cons_self)) rfl (by decide) m_1202 (by decide) (fun n9 q9 => ?_)
  show LW X kL_home p l e _ s mm _ below meth c _ 13 _ _ _ _ _ _ _
  refine lr_astoreC (pc := 13) (i := 4) F dL_home_13 (by decide) rfl ?_
  refine lr_iconst (pc := 15) (v := 1) F dL_home_15 rfl ?_
  exact lr_iret (pc := 16) F hrt B.notSynchronized dL_home_16 (Nat.le_of_eq (Nat.zero_add _)) (Nat.le_of_eq (Nat.zero_add _)) (fun t hR hF => ⟨⟨rfl, n9, hR⟩, hF⟩)
theorem dL_memory_0 : decode cL_memory 0 = .ok (.aload_n 2, 1) := by decide +kernel
theorem dL_memory_1 : decode cL_memory 1 = .ok (.iconst 0, 1) := by decide +kernel
theorem dL_memory_2 : decode cL_memory 2 = .ok (.aload_n 0, 1) := by decide +kernel
theorem dL_memory_3 : decode cL_memory 3 = .ok (.iload_n 1, 1) := by decide +kernel
theorem dL_memory_4 : decode cL_memory 4 = .ok (.invokevirtual 46, 3) := by decide +kernel
theorem dL_memory_7 : decode cL_memory 7 = .ok (.i2l, 1) := by decide +kernel
theorem dL_memory_8 : decode cL_memory 8 = .ok (.lastore, 1) := by decide +kernel
theorem dL_memory_9 : decode cL_memory 9 = .ok (.goto 6, 3) := by decide +kernel
theorem dL_memory_12 : decode cL_memory 12 = .ok (.astore_n 3, 1) := by decide +kernel
theorem dL_memory_13 : decode cL_memory 13 = .ok (.iconst 1, 1) := by decide +kernel
theorem dL_memory_14 : decode cL_memory 14 = .ok (.ireturn, 1) := by decide +kernel
theorem dL_memory_15 : decode cL_memory 15 = .ok (.iconst 0, 1) := by decide +kernel
theorem dL_memory_16 : decode cL_memory 16 = .ok (.ireturn, 1) := by decide +kernel
abbrev kL_memory : Mt := (yL_memory, cL_memory, 4, some .int, 7, 221)
theorem cw_memory : CW kL_memory [(0, 9, 12, 19)] 3 := ⟨m_1274, m_123, by decide, by decide, by decide +kernel, m_1273⟩
theorem ml0_memory (l : Launch) (X : Cx) (hl : l.stackTraces = false) {h m ot h1 : AH} {x0 : Int32} {v : Int32} (hf : f_X10_memory h 1 x0 = some (some v, h1)) (hs : hS h 1 = 9) (ho : hS ot 277 = 22) (hn : hN ot 277 = 1) : Met l kL_memory.1 (wsw kL_memory [(0, 9, 12, 19)]) (rmk kL_memory h h1) (va_Pc [rf X 1, .int x0, rf X 277] (W3 X h m ot)) (QL0 X v h1 m ot) (hZ h1 - hZ h) (hV h1 - hV h) (xAr X) := by
  refine va_MetW (cc := kL_memory.2.1) (maxL := kL_memory.2.2.1) (ret := kL_memory.2.2.2.1) (hh := [(0, 9, 12, 19)]) (by decide) rfl ?_
  intro p e s mm args below meth c s₁ B hml hP
  obtain ⟨rfl, hR, hK, hSx⟩ := hP
  have hts := atoms_spec (ws := wsw kL_memory [(0, 9, 12, 19)]) B.pre
  have F : QF X kL_memory p s mm ([rf X 1, .int x0, rf X 277] : List Value).toArray c := ⟨B.exec, B.bytes, hml, findClass_of_methodNamed B.named, fun w hw => hts w (List.mem_cons_of_mem _ hw), hK, hSx⟩
  have hin := lv_entry ([rf X 1, .int x0, rf X 277] : List Value) (n := kL_memory.2.2.1) (by simp [lg_sl, rf_cat, ca_i, ca_l, ca_r])
  rw [show lv_args 0 ([rf X 1, .int x0, rf X 277] : List Value) = [(0, rf X 1), (1, .int x0), (2, rf X 277)] by simp [lv_args, rf_cat, ca_i, ca_l, ca_r]] at hin
  rw [lg_entry_eq]
  have hrt : meth.sig.returnType = some .int := B.returns
  refine LW.use (X := X) (k := kL_memory) ?_ va_S.rf hR hin
  refine lr_aload_n (pc := 0) (i := 2) F 2 dL_memory_0 rfl rfl ?_
  refine lr_iconst (pc := 1) (v := 0) F dL_memory_1 rfl ?_
  refine lr_aload_n (pc := 2) (i := 0) F 0 dL_memory_2 rfl rfl ?_
  refine lr_iload_n (pc := 3) (i := 1) F 1 dL_memory_3 rfl rfl ?_
  refine lr_callC (pc := 4) (ci := 8) (o := 1) (av := [.int x0]) (st := [.int 0, rf X 277]) F dL_memory_4 ck_X10_memory m_1275 m_1276 m_1277 rfl (by decide) hs (Nat.le_refl _) (Nat.le_refl _) rfl (by simp [rf_cat, ca_i, ca_l, ca_r]) (ctr_X10_memory l X hl hf) rfl rfl rfl (Nat.le_of_eq (Nat.zero_add _)) (Nat.le_of_eq (Nat.zero_add _)) ?_
  refine lr_i2l (pc := 7) F dL_memory_7 ?_
  refine lr_last (pc := 8) F ho (by rw [hn]; rfl) dL_memory_8 ?_
  refine lr_goto (pc := 9) (tgt := 15) F dL_memory_9 rfl ?_
  refine lr_iconst (pc := 15) (v := 0) F dL_memory_15 rfl ?_
  exact lr_iret (pc := 16) F hrt B.notSynchronized dL_memory_16 (Nat.le_of_eq (Nat.zero_add _)) (Nat.le_of_eq (Nat.zero_add _)) (fun t hR hF => ⟨⟨rfl, hR⟩, hF⟩)
theorem ml1_memory (l : Launch) (X : Cx) (hl : l.stackTraces = false) {h m ot h1 : AH} {x0 : Int32} (hf : f_X10_memory h 1 x0 = some (none, h1)) (hs : hS h 1 = 9) (ho : hS ot 277 = 22) (hn : hN ot 277 = 1) : Met l kL_memory.1 (wsw kL_memory [(0, 9, 12, 19)]) (rmk kL_memory h h1) (va_Pc [rf X 1, .int x0, rf X 277] (W3 X h m ot)) (QL1 X h1 m ot) (hZ h1 - hZ h) (hV h1 - hV h) (xAr X) := by
  refine va_MetW (cc := kL_memory.2.1) (maxL := kL_memory.2.2.1) (ret := kL_memory.2.2.2.1) (hh := [(0, 9, 12, 19)]) (by decide) rfl ?_
  intro p e s mm args below meth c s₁ B hml hP
  obtain ⟨rfl, hR, hK, hSx⟩ := hP
  have hts := atoms_spec (ws := wsw kL_memory [(0, 9, 12, 19)]) B.pre
  have F : QF X kL_memory p s mm ([rf X 1, .int x0, rf X 277] : List Value).toArray c := ⟨B.exec, B.bytes, hml, findClass_of_methodNamed B.named, fun w hw => hts w (List.mem_cons_of_mem _ hw), hK, hSx⟩
  have hin := lv_entry ([rf X 1, .int x0, rf X 277] : List Value) (n := kL_memory.2.2.1) (by simp [lg_sl, rf_cat, ca_i, ca_l, ca_r])
  rw [show lv_args 0 ([rf X 1, .int x0, rf X 277] : List Value) = [(0, rf X 1), (1, .int x0), (2, rf X 277)] by simp [lv_args, rf_cat, ca_i, ca_l, ca_r]] at hin
  rw [lg_entry_eq]
  have hrt : meth.sig.returnType = some .int := B.returns
  refine LW.use (X := X) (k := kL_memory) ?_ va_S.rf hR hin
  refine lr_aload_n (pc := 0) (i := 2) F 2 dL_memory_0 rfl rfl ?_
  refine lr_iconst (pc := 1) (v := 0) F dL_memory_1 rfl ?_
  refine lr_aload_n (pc := 2) (i := 0) F 0 dL_memory_2 rfl rfl ?_
  refine lr_iload_n (pc := 3) (i := 1) F 1 dL_memory_3 rfl rfl ?_
  refine lr_callX (pc := 4) (ci := 8) (o := 1) (av := [.int x0]) (st := [.int 0, rf X 277]) ⟨0, 9, 12, 19⟩ F dL_memory_4 ck_X10_memory m_1275 m_1276 m_1277 rfl (by decide) hs (Nat.le_refl _) (Nat.le_refl _) rfl (by simp [rf_cat, ca_i, ca_l, ca_r]) (ctx_X10_memory l X hl hf) rfl rfl rfl (Nat.le_of_eq (Nat.zero_add _)) (Nat.le_of_eq (Nat.zero_add _)) (vx_table (x := kL_memory.1) B (hts _ List.mem_cons_self)) rfl (by decide) m_986 (by decide) (fun n9 q9 => ?_)
  show LW X kL_memory p l e _ s mm _ below meth c _ 12 _ _ _ _ _ _ _
  refine lr_astore_nC (pc := 12) (i := 3) F dL_memory_12 rfl (by decide) rfl ?_
  refine lr_iconst (pc := 13) (v := 1) F dL_memory_13 rfl ?_
  exact lr_iret (pc := 14) F hrt B.notSynchronized dL_memory_14 (Nat.le_of_eq (Nat.zero_add _)) (Nat.le_of_eq (Nat.zero_add _)) (fun t hR hF => ⟨⟨rfl, n9, hR⟩, hF⟩)
theorem dL_word_0 : decode cL_word 0 = .ok (.aload_n 2, 1) := by decide +kernel
theorem dL_word_1 : decode cL_word 1 = .ok (.iconst 0, 1) := by decide +kernel
theorem dL_word_2 : decode cL_word 2 = .ok (.aload_n 0, 1) := by decide +kernel
theorem dL_word_3 : decode cL_word 3 = .ok (.iload_n 1, 1) := by decide +kernel
theorem dL_word_4 : decode cL_word 4 = .ok (.invokevirtual 49, 3) := by decide +kernel
theorem dL_word_7 : decode cL_word 7 = .ok (.i2l, 1) := by decide +kernel
theorem dL_word_8 : decode cL_word 8 = .ok (.lastore, 1) := by decide +kernel
theorem dL_word_9 : decode cL_word 9 = .ok (.goto 6, 3) := by decide +kernel
theorem dL_word_12 : decode cL_word 12 = .ok (.astore_n 3, 1) := by decide +kernel
theorem dL_word_13 : decode cL_word 13 = .ok (.iconst 1, 1) := by decide +kernel
theorem dL_word_14 : decode cL_word 14 = .ok (.ireturn, 1) := by decide +kernel
theorem dL_word_15 : decode cL_word 15 = .ok (.iconst 0, 1) := by decide +kernel
theorem dL_word_16 : decode cL_word 16 = .ok (.ireturn, 1) := by decide +kernel
abbrev kL_word : Mt := (yL_word, cL_word, 4, some .int, 7, 223)
theorem cw_word : CW kL_word [(0, 9, 12, 19)] 3 := ⟨m_1282, m_123, by decide, by decide, by decide +kernel, m_1281⟩
theorem ml0_word (l : Launch) (X : Cx) (hl : l.stackTraces = false) {h m ot h1 : AH} {x0 : Int32} {v : Int32} (hf : f_X10_word h 1 x0 = some (some v, h1)) (hs : hS h 1 = 9) (ho : hS ot 277 = 22) (hn : hN ot 277 = 1) : Met l kL_word.1 (wsw kL_word [(0, 9, 12, 19)]) (rmk kL_word h h1) (va_Pc [rf X 1, .int x0, rf X 277] (W3 X h m ot)) (QL0 X v h1 m ot) (hZ h1 - hZ h) (hV h1 - hV h) (xAr X) := by
  refine va_MetW (cc := kL_word.2.1) (maxL := kL_word.2.2.1) (ret := kL_word.2.2.2.1) (hh := [(0, 9, 12, 19)]) (by decide) rfl ?_
  intro p e s mm args below meth c s₁ B hml hP
  obtain ⟨rfl, hR, hK, hSx⟩ := hP
  have hts := atoms_spec (ws := wsw kL_word [(0, 9, 12, 19)]) B.pre
  have F : QF X kL_word p s mm ([rf X 1, .int x0, rf X 277] : List Value).toArray c := ⟨B.exec, B.bytes, hml, findClass_of_methodNamed B.named, fun w hw => hts w (List.mem_cons_of_mem _ hw), hK, hSx⟩
  have hin := lv_entry ([rf X 1, .int x0, rf X 277] : List Value) (n := kL_word.2.2.1) (by simp [lg_sl, rf_cat, ca_i, ca_l, ca_r])
  rw [show lv_args 0 ([rf X 1, .int x0, rf X 277] : List Value) = [(0, rf X 1), (1, .int x0), (2, rf X 277)] by simp [lv_args, rf_cat, ca_i, ca_l, ca_r]] at hin
  rw [lg_entry_eq]
  have hrt : meth.sig.returnType = some .int := B.returns
  refine LW.use (X := X) (k := kL_word) ?_ va_S.rf hR hin
  refine lr_aload_n (pc := 0) (i := 2) F 2 dL_word_0 rfl rfl ?_
  refine lr_iconst (pc := 1) (v := 0) F dL_word_1 rfl ?_
  refine lr_aload_n (pc := 2) (i := 0) F 0 dL_word_2 rfl rfl ?_
  refine lr_iload_n (pc := 3) (i := 1) F 1 dL_word_3 rfl rfl ?_
  refine lr_callC (pc := 4) (ci := 8) (o := 1) (av := [.int x0]) (st := [.int 0, rf X 277]) F dL_word_4 ck_X10_word m_1283 m_1284 m_1285 rfl (by decide) hs (Nat.le_refl _) (Nat.le_refl _) rfl (by simp [rf_cat, ca_i, ca_l, ca_r]) (ctr_X10_word l X hl hf) rfl rfl rfl (Nat.le_of_eq (Nat.zero_add _)) (Nat.le_of_eq (Nat.zero_add _)) ?_
  refine lr_i2l (pc := 7) F dL_word_7 ?_
  refine lr_last (pc := 8) F ho (by rw [hn]; rfl) dL_word_8 ?_
  refine lr_goto (pc := 9) (tgt := 15) F dL_word_9 rfl ?_
  refine lr_iconst (pc := 15) (v := 0) F dL_word_15 rfl ?_
  exact lr_iret (pc := 16) F hrt B.notSynchronized dL_word_16 (Nat.le_of_eq (Nat.zero_add _)) (Nat.le_of_eq (Nat.zero_add _)) (fun t hR hF => ⟨⟨rfl, hR⟩, hF⟩)
theorem ml1_word (l : Launch) (X : Cx) (hl : l.stackTraces = false) {h m ot h1 : AH} {x0 : Int32} (hf : f_X10_word h 1 x0 = some (none, h1)) (hs : hS h 1 = 9) (ho : hS ot 277 = 22) (hn : hN ot 277 = 1) : Met l kL_word.1 (wsw kL_word [(0, 9, 12, 19)]) (rmk kL_word h h1) (va_Pc [rf X 1, .int x0, rf X 277] (W3 X h m ot)) (QL1 X h1 m ot) (hZ h1 - hZ h) (hV h1 - hV h) (xAr X) := by
  refine va_MetW (cc := kL_word.2.1) (maxL := kL_word.2.2.1) (ret := kL_word.2.2.2.1) (hh := [(0, 9, 12, 19)]) (by decide) rfl ?_
  intro p e s mm args below meth c s₁ B hml hP
  obtain ⟨rfl, hR, hK, hSx⟩ := hP
  have hts := atoms_spec (ws := wsw kL_word [(0, 9, 12, 19)]) B.pre
  have F : QF X kL_word p s mm ([rf X 1, .int x0, rf X 277] : List Value).toArray c := ⟨B.exec, B.bytes, hml, findClass_of_methodNamed B.named, fun w hw => hts w (List.mem_cons_of_mem _ hw), hK, hSx⟩
  have hin := lv_entry ([rf X 1, .int x0, rf X 277] : List Value) (n := kL_word.2.2.1) (by simp [lg_sl, rf_cat, ca_i, ca_l, ca_r])
  rw [show lv_args 0 ([rf X 1, .int x0, rf X 277] : List Value) = [(0, rf X 1), (1, .int x0), (2, rf X 277)] by simp [lv_args, rf_cat, ca_i, ca_l, ca_r]] at hin
  rw [lg_entry_eq]
  have hrt : meth.sig.returnType = some .int := B.returns
  refine LW.use (X := X) (k := kL_word) ?_ va_S.rf hR hin
  refine lr_aload_n (pc := 0) (i := 2) F 2 dL_word_0 rfl rfl ?_
  refine lr_iconst (pc := 1) (v := 0) F dL_word_1 rfl ?_
  refine lr_aload_n (pc := 2) (i := 0) F 0 dL_word_2 rfl rfl ?_
  refine lr_iload_n (pc := 3) (i := 1) F 1 dL_word_3 rfl rfl ?_
  refine lr_callX (pc := 4) (ci := 8) (o := 1) (av := [.int x0]) (st := [.int 0, rf X 277]) ⟨0, 9, 12, 19⟩ F dL_word_4 ck_X10_word m_1283 m_1284 m_1285 rfl (by decide) hs (Nat.le_refl _) (Nat.le_refl _) rfl (by simp [rf_cat, ca_i, ca_l, ca_r]) (ctx_X10_word l X hl hf) rfl rfl rfl (Nat.le_of_eq (Nat.zero_add _)) (Nat.le_of_eq (Nat.zero_add _)) (vx_table (x := kL_word.1) B (hts _ List.mem_cons_self)) rfl (by decide) m_986 (by decide) (fun n9 q9 => ?_)
  show LW X kL_word p l e _ s mm _ below meth c _ 12 _ _ _ _ _ _ _
  refine lr_astore_nC (pc := 12) (i := 3) F dL_word_12 rfl (by decide) rfl ?_
  refine lr_iconst (pc := 13) (v := 1) F dL_word_13 rfl ?_
  exact lr_iret (pc := 14) F hrt B.notSynchronized dL_word_14 (Nat.le_of_eq (Nat.zero_add _)) (Nat.le_of_eq (Nat.zero_add _)) (fun t hR hF => ⟨⟨rfl, n9, hR⟩, hF⟩)
theorem dL_message_0 : decode cL_message 0 = .ok (.aload_n 3, 1) := by decide +kernel
theorem dL_message_1 : decode cL_message 1 = .ok (.iconst 0, 1) := by decide +kernel
theorem dL_message_2 : decode cL_message 2 = .ok (.aload_n 0, 1) := by decide +kernel
theorem dL_message_3 : decode cL_message 3 = .ok (.iload_n 1, 1) := by decide +kernel
theorem dL_message_4 : decode cL_message 4 = .ok (.iload_n 2, 1) := by decide +kernel
theorem dL_message_5 : decode cL_message 5 = .ok (.invokevirtual 52, 3) := by decide +kernel
theorem dL_message_8 : decode cL_message 8 = .ok (.i2l, 1) := by decide +kernel
theorem dL_message_9 : decode cL_message 9 = .ok (.lastore, 1) := by decide +kernel
theorem dL_message_10 : decode cL_message 10 = .ok (.goto 7, 3) := by decide +kernel
theorem dL_message_13 : decode cL_message 13 = .ok (.astore 4, 2) := by decide +kernel
theorem dL_message_15 : decode cL_message 15 = .ok (.iconst 1, 1) := by decide +kernel
theorem dL_message_16 : decode cL_message 16 = .ok (.ireturn, 1) := by decide +kernel
theorem dL_message_17 : decode cL_message 17 = .ok (.iconst 0, 1) := by decide +kernel
theorem dL_message_18 : decode cL_message 18 = .ok (.ireturn, 1) := by decide +kernel
abbrev kL_message : Mt := (yL_message, cL_message, 5, some .int, 7, 222)
theorem cw_message : CW kL_message [(0, 10, 13, 34)] 4 := ⟨m_1298, m_123, by decide, by decide, by decide +kernel, m_1297⟩
theorem ml0_message (l : Launch) (X : Cx) (hl : l.stackTraces = false) {h m ot h1 : AH} {x0 x1 : Int32} {v : Int32} (hf : f_X10_message h 1 x0 x1 = some (some v, h1)) (hs : hS h 1 = 9) (ho : hS ot 277 = 22) (hn : hN ot 277 = 1) : Met l kL_message.1 (wsw kL_message [(0, 10, 13, 34)]) (rmk kL_message h h1) (va_Pc [rf X 1, .int x0, .int x1, rf X 277] (W3 X h m ot)) (QL0 X v h1 m ot) (hZ h1 - hZ h) (hV h1 - hV h) (xAr X) := by
  refine va_MetW (cc := kL_message.2.1) (maxL := kL_message.2.2.1) (ret := kL_message.2.2.2.1) (hh := [(0, 10, 13, 34)]) (by decide) rfl ?_
  intro p e s mm args below meth c s₁ B hml hP
  obtain ⟨rfl, hR, hK, hSx⟩ := hP
  have hts := atoms_spec (ws := wsw kL_message [(0, 10, 13, 34)]) B.pre
  have F : QF X kL_message p s mm ([rf X 1, .int x0, .int x1, rf X 277] : List Value).toArray c := ⟨B.exec, B.bytes, hml, findClass_of_methodNamed B.named, fun w hw => hts w (List.mem_cons_of_mem _ hw), hK, hSx⟩
  have hin := lv_entry ([rf X 1, .int x0, .int x1, rf X 277] : List Value) (n := kL_message.2.2.1) (by simp [lg_sl, rf_cat, ca_i, ca_l, ca_r])
  rw [show lv_args 0 ([rf X 1, .int x0, .int x1, rf X 277] : List Value) = [(0, rf X 1), (1, .int x0), (2, .int x1), (3, rf X 277)] by simp [lv_args, rf_cat, ca_i, ca_l, ca_r]] at hin
  rw [lg_entry_eq]
  have hrt : meth.sig.returnType = some .int := B.returns
  refine LW.use (X := X) (k := kL_message) ?_ va_S.rf hR hin
  refine lr_aload_n (pc := 0) (i := 3) F 3 dL_message_0 rfl rfl ?_
  refine lr_iconst (pc := 1) (v := 0) F dL_message_1 rfl ?_
  refine lr_aload_n (pc := 2) (i := 0) F 0 dL_message_2 rfl rfl ?_
  refine lr_iload_n (pc := 3) (i := 1) F 1 dL_message_3 rfl rfl ?_
  refine lr_iload_n (pc := 4) (i := 2) F 2 dL_message_4 rfl rfl ?_
  refine lr_callC (pc := 5) (ci := 8) (o := 1) (av := [.int x0, .int x1]) (st := [.int 0, rf X 277]) F dL_message_5 ck_X10_message m_1299 m_1300 m_1301 rfl (by decide) hs (Nat.le_refl _) (Nat.le_refl _) rfl (by simp [rf_cat, ca_i, ca_l, ca_r]) (ctr_X10_message l X hl hf) rfl rfl rfl (Nat.le_of_eq (Nat.zero_add _)) (Nat.le_of_eq (Nat.zero_add _)) ?_
  refine lr_i2l (pc := 8) F dL_message_8 ?_
  refine lr_last (pc := 9) F ho (by rw [hn]; rfl) dL_message_9 ?_
  refine lr_goto (pc := 10) (tgt := 17) F dL_message_10 rfl ?_
  refine lr_iconst (pc := 17) (v := 0) F dL_message_17 rfl ?_
  exact lr_iret (pc := 18) F hrt B.notSynchronized dL_message_18 (Nat.le_of_eq (Nat.zero_add _)) (Nat.le_of_eq (Nat.zero_add _)) (fun t hR hF => ⟨⟨rfl, hR⟩, hF⟩)
theorem ml1_message (l : Launch) (X : Cx) (hl : l.stackTraces = false) {h m ot h1 : AH} {x0 x1 : Int32} (hf : f_X10_message h 1 x0 x1 = some (none, h1)) (hs : hS h 1 = 9) (ho : hS ot 277 = 22) (hn : hN ot 277 = 1) : Met l kL_message.1 (wsw kL_message [(0, 10, 13, 34)]) (rmk kL_message h h1) (va_Pc [rf X 1, .int x0, .int x1, rf X 277] (W3 X h m ot)) (QL1 X h1 m ot) (hZ h1 - hZ h) (hV h1 - hV h) (xAr X) := by
  refine va_MetW (cc := kL_message.2.1) (maxL := kL_message.2.2.1) (ret := kL_message.2.2.2.1) (hh := [(0, 10, 13, 34)]) (by decide) rfl ?_
  intro p e s mm args below meth c s₁ B hml hP
  obtain ⟨rfl, hR, hK, hSx⟩ := hP
  have hts := atoms_spec (ws := wsw kL_message [(0, 10, 13, 34)]) B.pre
  have F : QF X kL_message p s mm ([rf X 1, .int x0, .int x1, rf X 277] : List Value).toArray c := ⟨B.exec, B.bytes, hml, findClass_of_methodNamed B.named, fun w hw => hts w (List.mem_cons_of_mem _ hw), hK, hSx⟩
  have hin := lv_entry ([rf X 1, .int x0, .int x1, rf X 277] : List Value) (n := kL_message.2.2.1) (by simp [lg_sl, rf_cat, ca_i, ca_l, ca_r])
  rw [show lv_args 0 ([rf X 1, .int x0, .int x1, rf X 277] : List Value) = [(0, rf X 1), (1, .int x0), (2, .int x1), (3, rf X 277)] by simp [lv_args, rf_cat, ca_i, ca_l, ca_r]] at hin
  rw [lg_entry_eq]
  have hrt : meth.sig.returnType = some .int := B.returns
  refine LW.use (X := X) (k := kL_message) ?_ va_S.rf hR hin
  refine lr_aload_n (pc := 0) (i := 3) F 3 dL_message_0 rfl rfl ?_
  refine lr_iconst (pc := 1) (v := 0) F dL_message_1 rfl ?_
  refine lr_aload_n (pc := 2) (i := 0) F 0 dL_message_2 rfl rfl ?_
  refine lr_iload_n (pc := 3) (i := 1) F 1 dL_message_3 rfl rfl ?_
  refine lr_iload_n (pc := 4) (i := 2) F 2 dL_message_4 rfl rfl ?_
  refine lr_callX (pc := 5) (ci := 8) (o := 1) (av := [.int x0, .int x1]) (st := [.int 0, rf X 277]) ⟨0, 10, 13, 34⟩ F dL_message_5 ck_X10_message m_1299 m_1300 m_1301 rfl (by decide) hs (Nat.le_refl _) (Nat.le_refl _) rfl (by simp [rf_cat, ca_i, ca_l, ca_r]) (ctx_X10_message l X hl hf) rfl rfl rfl (Nat.le_of_eq (Nat.zero_add _)) (Nat.le_of_eq (Nat.zero_add _)) (vx_table (x := kL_message.1) B (hts _ List.mem_cons_self)) rfl (by decide) m_1202 (by decide) (fun n9 q9 => ?_)
  show LW X kL_message p l e _ s mm _ below meth c _ 13 _ _ _ _ _ _ _
  refine lr_astoreC (pc := 13) (i := 4) F dL_message_13 (by decide) rfl ?_
  refine lr_iconst (pc := 15) (v := 1) F dL_message_15 rfl ?_
  exact lr_iret (pc := 16) F hrt B.notSynchronized dL_message_16 (Nat.le_of_eq (Nat.zero_add _)) (Nat.le_of_eq (Nat.zero_add _)) (fun t hR hF => ⟨⟨rfl, n9, hR⟩, hF⟩)

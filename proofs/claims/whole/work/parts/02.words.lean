/-! The words: those of the tables that hold in every later state too. -/
def zW : List Cond := lw_tbl.filter goodWord
theorem zw_in (i : Nat) {w : Cond} (h : lw_tbl[i]? = some w) (hg : goodWord w = true) : w ∈ zW := List.mem_filter.mpr ⟨List.mem_of_getElem? h, hg⟩
theorem zw_good {w : Cond} (h : w ∈ zW) : w ∈ zW ∧ ((w.onTables && w.keeps) = true ∨ ∃ ty, w = .arrayClass ty) := ⟨h, good_of_word (List.mem_filter.mp h).2⟩
theorem zw_all {c : Cond} (h : c ∈ zW) : GoodIn zW (c :: zW) := fun w hw => zw_good ((List.mem_cons.mp hw).elim (fun e => e ▸ h) id)
theorem zm_0 : (Jvm.Cond.initialized "RecordMatcherLaw") ∈ zW := zw_in 42 (by decide +kernel) rfl
theorem zm_1 : (Jvm.Cond.initialized "RecordMatcher") ∈ zW := zw_in 43 (by decide +kernel) rfl
theorem zm_2 : (Jvm.Cond.initialized "RecordMatcher$Run") ∈ zW := zw_in 44 (by decide +kernel) rfl
theorem zm_3 : (Jvm.Cond.initialized "RecordMatcher$Entry") ∈ zW := zw_in 45 (by decide +kernel) rfl
theorem zm_4 : (Jvm.Cond.initialized "RecordMatcher$Text") ∈ zW := zw_in 46 (by decide +kernel) rfl
theorem zm_5 : (Jvm.Cond.initialized "RecordMatcherModel") ∈ zW := zw_in 47 (by decide +kernel) rfl
theorem zm_6 : (Jvm.Cond.initialized "RecordMatcher$Expression") ∈ zW := zw_in 48 (by decide +kernel) rfl
theorem zm_7 : (Jvm.Cond.initialized "RecordMatcher$Jaccard") ∈ zW := zw_in 49 (by decide +kernel) rfl
theorem zm_8 : (Jvm.Cond.initialized "RecordMatcher$Edit") ∈ zW := zw_in 50 (by decide +kernel) rfl
theorem zm_9 : (Jvm.Cond.initialized "RecordMatcher$Joined") ∈ zW := zw_in 51 (by decide +kernel) rfl
theorem zm_10 : (Jvm.Cond.initialized "java/lang/Math") ∈ zW := zw_in 52 (by decide +kernel) rfl
theorem zm_11 : (Jvm.Cond.classLink "RecordMatcherLaw" (7 : Nat) "RecordMatcher") ∈ zW := zw_in 53 (by decide +kernel) rfl
theorem zm_12 : (Jvm.Cond.instantiable "RecordMatcher" (7 : Nat)) ∈ zW := zw_in 54 (by decide +kernel) rfl
theorem zm_13 : (Jvm.Cond.methodLink "RecordMatcherLaw" (9 : Nat) ({ cls := "RecordMatcher", name := "<init>", desc := "()V" } : Jvm.MethodName)) ∈ zW := zw_in 55 (by decide +kernel) rfl
theorem zm_14 : (Jvm.Cond.instanceMethod ({ cls := "RecordMatcher", name := "<init>", desc := "()V" } : Jvm.MethodName)) ∈ zW := zw_in 56 (by decide +kernel) rfl
theorem zm_15 : (Jvm.Cond.code ({ cls := "RecordMatcher", name := "<init>", desc := "()V" } : Jvm.MethodName) prog_1_method_1_code (2 : Nat) (Option.none : Option Jvm.ClassFile.FieldType)) ∈ zW := zw_in 57 (by decide +kernel) rfl
theorem zm_16 : (Jvm.Cond.methodLink "RecordMatcher" (1 : Nat) ({ cls := "java/lang/Object", name := "<init>", desc := "()V" } : Jvm.MethodName)) ∈ zW := zw_in 58 (by decide +kernel) rfl
theorem zm_17 : (Jvm.Cond.instanceMethod ({ cls := "java/lang/Object", name := "<init>", desc := "()V" } : Jvm.MethodName)) ∈ zW := zw_in 59 (by decide +kernel) rfl
theorem zm_18 : (Jvm.Cond.code ({ cls := "java/lang/Object", name := "<init>", desc := "()V" } : Jvm.MethodName) object_method_1_code (1 : Nat) (Option.none : Option Jvm.ClassFile.FieldType)) ∈ zW := zw_in 60 (by decide +kernel) rfl
theorem zm_19 : (Jvm.Cond.classLink "RecordMatcher" (9 : Nat) "RecordMatcher$Entry") ∈ zW := zw_in 61 (by decide +kernel) rfl
theorem zm_21 : (Jvm.Cond.classLink "RecordMatcher" (15 : Nat) "RecordMatcher$Expression") ∈ zW := zw_in 63 (by decide +kernel) rfl
theorem zm_23 : (Jvm.Cond.classLink "RecordMatcher" (21 : Nat) "RecordMatcher$Run") ∈ zW := zw_in 65 (by decide +kernel) rfl
theorem zm_24 : (Jvm.Cond.instantiable "RecordMatcher$Run" (5 : Nat)) ∈ zW := zw_in 66 (by decide +kernel) rfl
theorem zm_26 : (Jvm.Cond.instanceMethod ({ cls := "RecordMatcher$Run", name := "<init>", desc := "()V" } : Jvm.MethodName)) ∈ zW := zw_in 68 (by decide +kernel) rfl
theorem zm_27 : (Jvm.Cond.code ({ cls := "RecordMatcher$Run", name := "<init>", desc := "()V" } : Jvm.MethodName) prog_7_method_1_code (1 : Nat) (Option.none : Option Jvm.ClassFile.FieldType)) ∈ zW := zw_in 69 (by decide +kernel) rfl
theorem zm_28 : (Jvm.Cond.methodLink "RecordMatcher$Run" (3 : Nat) ({ cls := "java/lang/Object", name := "<init>", desc := "()V" } : Jvm.MethodName)) ∈ zW := zw_in 70 (by decide +kernel) rfl
theorem zm_29 : (Jvm.Cond.fieldLink "RecordMatcher$Run" (9 : Nat) "RecordMatcher$Run" "done" "[I") ∈ zW := zw_in 71 (by decide +kernel) rfl
theorem zm_30 : (Jvm.Cond.fieldLink "RecordMatcher$Run" (15 : Nat) "RecordMatcher$Run" "noted" "[Z") ∈ zW := zw_in 72 (by decide +kernel) rfl
theorem zm_31 : (Jvm.Cond.fieldLink "RecordMatcher$Run" (19 : Nat) "RecordMatcher$Run" "leaders" "[I") ∈ zW := zw_in 73 (by decide +kernel) rfl
theorem zm_33 : (Jvm.Cond.fieldLink "RecordMatcher$Run" (26 : Nat) "RecordMatcher$Run" "tasks" "I") ∈ zW := zw_in 75 (by decide +kernel) rfl
theorem zm_35 : (Jvm.Cond.fieldLink "RecordMatcher$Run" (22 : Nat) "RecordMatcher$Run" "workers" "I") ∈ zW := zw_in 77 (by decide +kernel) rfl
theorem zm_47 : (Jvm.Cond.arrayClass Jvm.ClassFile.FieldType.int) ∈ zW := zw_in 89 (by decide +kernel) rfl
theorem zm_48 : (Jvm.Cond.arrayClass Jvm.ClassFile.FieldType.boolean) ∈ zW := zw_in 90 (by decide +kernel) rfl
theorem zm_49 : (Jvm.Cond.instantiable "RecordMatcher$Entry" (2 : Nat)) ∈ zW := zw_in 91 (by decide +kernel) rfl
theorem zm_51 : (Jvm.Cond.instanceMethod ({ cls := "RecordMatcher$Entry", name := "<init>", desc := "()V" } : Jvm.MethodName)) ∈ zW := zw_in 93 (by decide +kernel) rfl
theorem zm_52 : (Jvm.Cond.code ({ cls := "RecordMatcher$Entry", name := "<init>", desc := "()V" } : Jvm.MethodName) prog_3_method_1_code (1 : Nat) (Option.none : Option Jvm.ClassFile.FieldType)) ∈ zW := zw_in 94 (by decide +kernel) rfl
theorem zm_53 : (Jvm.Cond.methodLink "RecordMatcher$Entry" (1 : Nat) ({ cls := "java/lang/Object", name := "<init>", desc := "()V" } : Jvm.MethodName)) ∈ zW := zw_in 95 (by decide +kernel) rfl
theorem zm_54 : (Jvm.Cond.classLink "RecordMatcher$Entry" (7 : Nat) "RecordMatcher$Text") ∈ zW := zw_in 96 (by decide +kernel) rfl
theorem zm_55 : (Jvm.Cond.instantiable "RecordMatcher$Text" (4 : Nat)) ∈ zW := zw_in 97 (by decide +kernel) rfl
theorem zm_57 : (Jvm.Cond.instanceMethod ({ cls := "RecordMatcher$Text", name := "<init>", desc := "()V" } : Jvm.MethodName)) ∈ zW := zw_in 99 (by decide +kernel) rfl
theorem zm_58 : (Jvm.Cond.code ({ cls := "RecordMatcher$Text", name := "<init>", desc := "()V" } : Jvm.MethodName) prog_8_method_1_code (1 : Nat) (Option.none : Option Jvm.ClassFile.FieldType)) ∈ zW := zw_in 100 (by decide +kernel) rfl
theorem zm_59 : (Jvm.Cond.methodLink "RecordMatcher$Text" (3 : Nat) ({ cls := "java/lang/Object", name := "<init>", desc := "()V" } : Jvm.MethodName)) ∈ zW := zw_in 101 (by decide +kernel) rfl
theorem zm_60 : (Jvm.Cond.fieldLink "RecordMatcher$Text" (9 : Nat) "RecordMatcher$Text" "codes" "[C") ∈ zW := zw_in 102 (by decide +kernel) rfl
theorem zm_63 : (Jvm.Cond.fieldLink "RecordMatcher$Text" (27 : Nat) "RecordMatcher$Text" "size" "I") ∈ zW := zw_in 105 (by decide +kernel) rfl
theorem zm_66 : (Jvm.Cond.fieldLink "RecordMatcher$Text" (15 : Nat) "RecordMatcher$Text" "typed" "I") ∈ zW := zw_in 108 (by decide +kernel) rfl
theorem zm_67 : (Jvm.Cond.fieldLink "RecordMatcher$Text" (19 : Nat) "RecordMatcher$Text" "inWord" "Z") ∈ zW := zw_in 109 (by decide +kernel) rfl
theorem zm_77 : (Jvm.Cond.arrayClass Jvm.ClassFile.FieldType.char) ∈ zW := zw_in 119 (by decide +kernel) rfl
theorem zm_78 : (Jvm.Cond.fieldLink "RecordMatcher$Entry" (10 : Nat) "RecordMatcher$Entry" "first" "LRecordMatcher$Text;") ∈ zW := zw_in 120 (by decide +kernel) rfl
theorem zm_79 : (Jvm.Cond.fieldLink "RecordMatcher$Entry" (16 : Nat) "RecordMatcher$Entry" "second" "LRecordMatcher$Text;") ∈ zW := zw_in 121 (by decide +kernel) rfl
theorem zm_85 : (Jvm.Cond.fieldLink "RecordMatcher" (11 : Nat) "RecordMatcher" "entries" "[LRecordMatcher$Entry;") ∈ zW := zw_in 127 (by decide +kernel) rfl
theorem zm_86 : (Jvm.Cond.fieldLink "RecordMatcher" (37 : Nat) "RecordMatcher" "recordCount" "I") ∈ zW := zw_in 128 (by decide +kernel) rfl
theorem zm_87 : (Jvm.Cond.fieldLink "RecordMatcher" (17 : Nat) "RecordMatcher" "stack" "[LRecordMatcher$Expression;") ∈ zW := zw_in 129 (by decide +kernel) rfl
theorem zm_88 : (Jvm.Cond.fieldLink "RecordMatcher" (68 : Nat) "RecordMatcher" "height" "I") ∈ zW := zw_in 130 (by decide +kernel) rfl
theorem zm_89 : (Jvm.Cond.fieldLink "RecordMatcher" (101 : Nat) "RecordMatcher" "rule" "LRecordMatcher$Expression;") ∈ zW := zw_in 131 (by decide +kernel) rfl
theorem zm_90 : (Jvm.Cond.fieldLink "RecordMatcher" (24 : Nat) "RecordMatcher" "run" "LRecordMatcher$Run;") ∈ zW := zw_in 132 (by decide +kernel) rfl
theorem zm_91 : (Jvm.Cond.fieldLink "RecordMatcher" (28 : Nat) "RecordMatcher" "ways" "[I") ∈ zW := zw_in 133 (by decide +kernel) rfl
theorem zm_107 : (Jvm.Cond.methodLink "RecordMatcherLaw" (13 : Nat) ({ cls := "RecordMatcher", name := "type", desc := "(IC)Z" } : Jvm.MethodName)) ∈ zW := zw_in 149 (by decide +kernel) rfl
theorem zm_108 : (Jvm.Cond.instanceMethod ({ cls := "RecordMatcher", name := "type", desc := "(IC)Z" } : Jvm.MethodName)) ∈ zW := zw_in 150 (by decide +kernel) rfl
theorem zm_109 : (Jvm.Cond.selects "RecordMatcher" ({ cls := "RecordMatcher", name := "type", desc := "(IC)Z" } : Jvm.MethodName) ({ cls := "RecordMatcher", name := "type", desc := "(IC)Z" } : Jvm.MethodName)) ∈ zW := zw_in 151 (by decide +kernel) rfl
theorem zm_110 : (Jvm.Cond.code ({ cls := "RecordMatcher", name := "type", desc := "(IC)Z" } : Jvm.MethodName) prog_1_method_2_code (3 : Nat) (Option.some Jvm.ClassFile.FieldType.boolean)) ∈ zW := zw_in 152 (by decide +kernel) rfl
theorem zm_111 : (Jvm.Cond.methodLink "RecordMatcher" (33 : Nat) ({ cls := "RecordMatcher", name := "isField", desc := "(I)Z" } : Jvm.MethodName)) ∈ zW := zw_in 153 (by decide +kernel) rfl
theorem zm_112 : (Jvm.Cond.static ({ cls := "RecordMatcher", name := "isField", desc := "(I)Z" } : Jvm.MethodName)) ∈ zW := zw_in 154 (by decide +kernel) rfl
theorem zm_113 : (Jvm.Cond.code ({ cls := "RecordMatcher", name := "isField", desc := "(I)Z" } : Jvm.MethodName) prog_1_method_23_code (1 : Nat) (Option.some Jvm.ClassFile.FieldType.boolean)) ∈ zW := zw_in 155 (by decide +kernel) rfl
theorem zm_114 : (Jvm.Cond.methodLink "RecordMatcher" (41 : Nat) ({ cls := "RecordMatcher", name := "textOf", desc := "(II)LRecordMatcher$Text;" } : Jvm.MethodName)) ∈ zW := zw_in 156 (by decide +kernel) rfl
theorem zm_116 : (Jvm.Cond.instanceMethod ({ cls := "RecordMatcher", name := "textOf", desc := "(II)LRecordMatcher$Text;" } : Jvm.MethodName)) ∈ zW := zw_in 158 (by decide +kernel) rfl
theorem zm_117 : (Jvm.Cond.code ({ cls := "RecordMatcher", name := "textOf", desc := "(II)LRecordMatcher$Text;" } : Jvm.MethodName) prog_1_method_25_code (3 : Nat) (Option.some (Jvm.ClassFile.FieldType.object "RecordMatcher$Text"))) ∈ zW := zw_in 159 (by decide +kernel) rfl
theorem zm_118 : (Jvm.Cond.methodLink "RecordMatcher" (167 : Nat) ({ cls := "RecordMatcher$Entry", name := "text", desc := "(I)LRecordMatcher$Text;" } : Jvm.MethodName)) ∈ zW := zw_in 160 (by decide +kernel) rfl
theorem zm_119 : (Jvm.Cond.instanceMethod ({ cls := "RecordMatcher$Entry", name := "text", desc := "(I)LRecordMatcher$Text;" } : Jvm.MethodName)) ∈ zW := zw_in 161 (by decide +kernel) rfl
theorem zm_120 : (Jvm.Cond.selects "RecordMatcher$Entry" ({ cls := "RecordMatcher$Entry", name := "text", desc := "(I)LRecordMatcher$Text;" } : Jvm.MethodName) ({ cls := "RecordMatcher$Entry", name := "text", desc := "(I)LRecordMatcher$Text;" } : Jvm.MethodName)) ∈ zW := zw_in 162 (by decide +kernel) rfl
theorem zm_121 : (Jvm.Cond.code ({ cls := "RecordMatcher$Entry", name := "text", desc := "(I)LRecordMatcher$Text;" } : Jvm.MethodName) prog_3_method_2_code (2 : Nat) (Option.some (Jvm.ClassFile.FieldType.object "RecordMatcher$Text"))) ∈ zW := zw_in 163 (by decide +kernel) rfl
theorem zm_122 : (Jvm.Cond.methodLink "RecordMatcher" (45 : Nat) ({ cls := "RecordMatcher$Text", name := "take", desc := "(C)Z" } : Jvm.MethodName)) ∈ zW := zw_in 164 (by decide +kernel) rfl
theorem zm_123 : (Jvm.Cond.instanceMethod ({ cls := "RecordMatcher$Text", name := "take", desc := "(C)Z" } : Jvm.MethodName)) ∈ zW := zw_in 165 (by decide +kernel) rfl
theorem zm_124 : (Jvm.Cond.selects "RecordMatcher$Text" ({ cls := "RecordMatcher$Text", name := "take", desc := "(C)Z" } : Jvm.MethodName) ({ cls := "RecordMatcher$Text", name := "take", desc := "(C)Z" } : Jvm.MethodName)) ∈ zW := zw_in 166 (by decide +kernel) rfl
theorem zm_125 : (Jvm.Cond.code ({ cls := "RecordMatcher$Text", name := "take", desc := "(C)Z" } : Jvm.MethodName) prog_8_method_2_code (3 : Nat) (Option.some Jvm.ClassFile.FieldType.boolean)) ∈ zW := zw_in 167 (by decide +kernel) rfl
theorem zm_126 : (Jvm.Cond.methodLink "RecordMatcher$Text" (23 : Nat) ({ cls := "RecordMatcher$Text", name := "isOfWord", desc := "(C)Z" } : Jvm.MethodName)) ∈ zW := zw_in 168 (by decide +kernel) rfl
theorem zm_127 : (Jvm.Cond.static ({ cls := "RecordMatcher$Text", name := "isOfWord", desc := "(C)Z" } : Jvm.MethodName)) ∈ zW := zw_in 169 (by decide +kernel) rfl
theorem zm_128 : (Jvm.Cond.code ({ cls := "RecordMatcher$Text", name := "isOfWord", desc := "(C)Z" } : Jvm.MethodName) prog_8_method_4_code (1 : Nat) (Option.some Jvm.ClassFile.FieldType.boolean)) ∈ zW := zw_in 170 (by decide +kernel) rfl
theorem zm_129 : (Jvm.Cond.methodLink "RecordMatcher$Text" (30 : Nat) ({ cls := "RecordMatcher$Text", name := "put", desc := "(C)V" } : Jvm.MethodName)) ∈ zW := zw_in 171 (by decide +kernel) rfl
theorem zm_131 : (Jvm.Cond.instanceMethod ({ cls := "RecordMatcher$Text", name := "put", desc := "(C)V" } : Jvm.MethodName)) ∈ zW := zw_in 173 (by decide +kernel) rfl
theorem zm_132 : (Jvm.Cond.code ({ cls := "RecordMatcher$Text", name := "put", desc := "(C)V" } : Jvm.MethodName) prog_8_method_3_code (2 : Nat) (Option.none : Option Jvm.ClassFile.FieldType)) ∈ zW := zw_in 174 (by decide +kernel) rfl
theorem zm_133 : (Jvm.Cond.methodLink "RecordMatcher$Text" (34 : Nat) ({ cls := "RecordMatcher$Text", name := "small", desc := "(C)C" } : Jvm.MethodName)) ∈ zW := zw_in 175 (by decide +kernel) rfl
theorem zm_134 : (Jvm.Cond.static ({ cls := "RecordMatcher$Text", name := "small", desc := "(C)C" } : Jvm.MethodName)) ∈ zW := zw_in 176 (by decide +kernel) rfl
theorem zm_135 : (Jvm.Cond.code ({ cls := "RecordMatcher$Text", name := "small", desc := "(C)C" } : Jvm.MethodName) prog_8_method_5_code (1 : Nat) (Option.some Jvm.ClassFile.FieldType.char)) ∈ zW := zw_in 177 (by decide +kernel) rfl
theorem zm_136 : (Jvm.Cond.methodLink "RecordMatcherLaw" (18 : Nat) ({ cls := "RecordMatcher", name := "add", desc := "()I" } : Jvm.MethodName)) ∈ zW := zw_in 178 (by decide +kernel) rfl
theorem zm_137 : (Jvm.Cond.instanceMethod ({ cls := "RecordMatcher", name := "add", desc := "()I" } : Jvm.MethodName)) ∈ zW := zw_in 179 (by decide +kernel) rfl
theorem zm_138 : (Jvm.Cond.selects "RecordMatcher" ({ cls := "RecordMatcher", name := "add", desc := "()I" } : Jvm.MethodName) ({ cls := "RecordMatcher", name := "add", desc := "()I" } : Jvm.MethodName)) ∈ zW := zw_in 180 (by decide +kernel) rfl
theorem zm_139 : (Jvm.Cond.code ({ cls := "RecordMatcher", name := "add", desc := "()I" } : Jvm.MethodName) prog_1_method_3_code (1 : Nat) (Option.some Jvm.ClassFile.FieldType.int)) ∈ zW := zw_in 181 (by decide +kernel) rfl
theorem zm_140 : (Jvm.Cond.methodLink "RecordMatcher" (51 : Nat) ({ cls := "RecordMatcher$Run", name := "end", desc := "()V" } : Jvm.MethodName)) ∈ zW := zw_in 182 (by decide +kernel) rfl
theorem zm_141 : (Jvm.Cond.instanceMethod ({ cls := "RecordMatcher$Run", name := "end", desc := "()V" } : Jvm.MethodName)) ∈ zW := zw_in 183 (by decide +kernel) rfl
theorem zm_142 : (Jvm.Cond.selects "RecordMatcher$Run" ({ cls := "RecordMatcher$Run", name := "end", desc := "()V" } : Jvm.MethodName) ({ cls := "RecordMatcher$Run", name := "end", desc := "()V" } : Jvm.MethodName)) ∈ zW := zw_in 184 (by decide +kernel) rfl
theorem zm_143 : (Jvm.Cond.code ({ cls := "RecordMatcher$Run", name := "end", desc := "()V" } : Jvm.MethodName) prog_7_method_3_code (1 : Nat) (Option.none : Option Jvm.ClassFile.FieldType)) ∈ zW := zw_in 185 (by decide +kernel) rfl
theorem zm_144 : (Jvm.Cond.methodLink "RecordMatcherLaw" (23 : Nat) ({ cls := "RecordMatcher", name := "records", desc := "()I" } : Jvm.MethodName)) ∈ zW := zw_in 186 (by decide +kernel) rfl
theorem zm_145 : (Jvm.Cond.instanceMethod ({ cls := "RecordMatcher", name := "records", desc := "()I" } : Jvm.MethodName)) ∈ zW := zw_in 187 (by decide +kernel) rfl
theorem zm_146 : (Jvm.Cond.selects "RecordMatcher" ({ cls := "RecordMatcher", name := "records", desc := "()I" } : Jvm.MethodName) ({ cls := "RecordMatcher", name := "records", desc := "()I" } : Jvm.MethodName)) ∈ zW := zw_in 188 (by decide +kernel) rfl
theorem zm_147 : (Jvm.Cond.code ({ cls := "RecordMatcher", name := "records", desc := "()I" } : Jvm.MethodName) prog_1_method_4_code (1 : Nat) (Option.some Jvm.ClassFile.FieldType.int)) ∈ zW := zw_in 189 (by decide +kernel) rfl
theorem zm_148 : (Jvm.Cond.methodLink "RecordMatcherLaw" (27 : Nat) ({ cls := "RecordMatcher", name := "words", desc := "(II)I" } : Jvm.MethodName)) ∈ zW := zw_in 190 (by decide +kernel) rfl
theorem zm_149 : (Jvm.Cond.instanceMethod ({ cls := "RecordMatcher", name := "words", desc := "(II)I" } : Jvm.MethodName)) ∈ zW := zw_in 191 (by decide +kernel) rfl
theorem zm_150 : (Jvm.Cond.selects "RecordMatcher" ({ cls := "RecordMatcher", name := "words", desc := "(II)I" } : Jvm.MethodName) ({ cls := "RecordMatcher", name := "words", desc := "(II)I" } : Jvm.MethodName)) ∈ zW := zw_in 192 (by decide +kernel) rfl
theorem zm_151 : (Jvm.Cond.code ({ cls := "RecordMatcher", name := "words", desc := "(II)I" } : Jvm.MethodName) prog_1_method_5_code (3 : Nat) (Option.some Jvm.ClassFile.FieldType.int)) ∈ zW := zw_in 193 (by decide +kernel) rfl
theorem zm_152 : (Jvm.Cond.methodLink "RecordMatcher" (54 : Nat) ({ cls := "RecordMatcher", name := "isRecord", desc := "(I)Z" } : Jvm.MethodName)) ∈ zW := zw_in 194 (by decide +kernel) rfl
theorem zm_154 : (Jvm.Cond.instanceMethod ({ cls := "RecordMatcher", name := "isRecord", desc := "(I)Z" } : Jvm.MethodName)) ∈ zW := zw_in 196 (by decide +kernel) rfl
theorem zm_155 : (Jvm.Cond.code ({ cls := "RecordMatcher", name := "isRecord", desc := "(I)Z" } : Jvm.MethodName) prog_1_method_22_code (2 : Nat) (Option.some Jvm.ClassFile.FieldType.boolean)) ∈ zW := zw_in 197 (by decide +kernel) rfl
theorem zm_156 : (Jvm.Cond.methodLink "RecordMatcher" (57 : Nat) ({ cls := "RecordMatcher$Text", name := "wordSetSize", desc := "()I" } : Jvm.MethodName)) ∈ zW := zw_in 198 (by decide +kernel) rfl
theorem zm_157 : (Jvm.Cond.instanceMethod ({ cls := "RecordMatcher$Text", name := "wordSetSize", desc := "()I" } : Jvm.MethodName)) ∈ zW := zw_in 199 (by decide +kernel) rfl
theorem zm_158 : (Jvm.Cond.selects "RecordMatcher$Text" ({ cls := "RecordMatcher$Text", name := "wordSetSize", desc := "()I" } : Jvm.MethodName) ({ cls := "RecordMatcher$Text", name := "wordSetSize", desc := "()I" } : Jvm.MethodName)) ∈ zW := zw_in 200 (by decide +kernel) rfl
theorem zm_159 : (Jvm.Cond.code ({ cls := "RecordMatcher$Text", name := "wordSetSize", desc := "()I" } : Jvm.MethodName) prog_8_method_6_code (3 : Nat) (Option.some Jvm.ClassFile.FieldType.int)) ∈ zW := zw_in 201 (by decide +kernel) rfl
theorem zm_160 : (Jvm.Cond.methodLink "RecordMatcher$Text" (38 : Nat) ({ cls := "RecordMatcher$Text", name := "beginsWord", desc := "(I)Z" } : Jvm.MethodName)) ∈ zW := zw_in 202 (by decide +kernel) rfl
theorem zm_162 : (Jvm.Cond.instanceMethod ({ cls := "RecordMatcher$Text", name := "beginsWord", desc := "(I)Z" } : Jvm.MethodName)) ∈ zW := zw_in 204 (by decide +kernel) rfl
theorem zm_163 : (Jvm.Cond.code ({ cls := "RecordMatcher$Text", name := "beginsWord", desc := "(I)Z" } : Jvm.MethodName) prog_8_method_10_code (2 : Nat) (Option.some Jvm.ClassFile.FieldType.boolean)) ∈ zW := zw_in 205 (by decide +kernel) rfl
theorem zm_164 : (Jvm.Cond.methodLink "RecordMatcher$Text" (42 : Nat) ({ cls := "RecordMatcher$Text", name := "hasWordBefore", desc := "(ILRecordMatcher$Text;I)Z" } : Jvm.MethodName)) ∈ zW := zw_in 206 (by decide +kernel) rfl
theorem zm_166 : (Jvm.Cond.instanceMethod ({ cls := "RecordMatcher$Text", name := "hasWordBefore", desc := "(ILRecordMatcher$Text;I)Z" } : Jvm.MethodName)) ∈ zW := zw_in 208 (by decide +kernel) rfl
theorem zm_167 : (Jvm.Cond.code ({ cls := "RecordMatcher$Text", name := "hasWordBefore", desc := "(ILRecordMatcher$Text;I)Z" } : Jvm.MethodName) prog_8_method_8_code (5 : Nat) (Option.some Jvm.ClassFile.FieldType.boolean)) ∈ zW := zw_in 209 (by decide +kernel) rfl
theorem zm_168 : (Jvm.Cond.methodLink "RecordMatcher$Text" (46 : Nat) ({ cls := "RecordMatcher$Text", name := "isSameWord", desc := "(ILRecordMatcher$Text;I)Z" } : Jvm.MethodName)) ∈ zW := zw_in 210 (by decide +kernel) rfl
theorem zm_170 : (Jvm.Cond.instanceMethod ({ cls := "RecordMatcher$Text", name := "isSameWord", desc := "(ILRecordMatcher$Text;I)Z" } : Jvm.MethodName)) ∈ zW := zw_in 212 (by decide +kernel) rfl
theorem zm_171 : (Jvm.Cond.code ({ cls := "RecordMatcher$Text", name := "isSameWord", desc := "(ILRecordMatcher$Text;I)Z" } : Jvm.MethodName) prog_8_method_9_code (5 : Nat) (Option.some Jvm.ClassFile.FieldType.boolean)) ∈ zW := zw_in 213 (by decide +kernel) rfl
theorem zm_172 : (Jvm.Cond.methodLink "RecordMatcher$Text" (49 : Nat) ({ cls := "RecordMatcher$Text", name := "endsWord", desc := "(I)Z" } : Jvm.MethodName)) ∈ zW := zw_in 214 (by decide +kernel) rfl
theorem zm_174 : (Jvm.Cond.instanceMethod ({ cls := "RecordMatcher$Text", name := "endsWord", desc := "(I)Z" } : Jvm.MethodName)) ∈ zW := zw_in 216 (by decide +kernel) rfl
theorem zm_175 : (Jvm.Cond.code ({ cls := "RecordMatcher$Text", name := "endsWord", desc := "(I)Z" } : Jvm.MethodName) prog_8_method_11_code (2 : Nat) (Option.some Jvm.ClassFile.FieldType.boolean)) ∈ zW := zw_in 217 (by decide +kernel) rfl
theorem zm_176 : (Jvm.Cond.methodLink "RecordMatcherLaw" (32 : Nat) ({ cls := "RecordMatcher", name := "length", desc := "(II)I" } : Jvm.MethodName)) ∈ zW := zw_in 218 (by decide +kernel) rfl
theorem zm_177 : (Jvm.Cond.instanceMethod ({ cls := "RecordMatcher", name := "length", desc := "(II)I" } : Jvm.MethodName)) ∈ zW := zw_in 219 (by decide +kernel) rfl
theorem zm_178 : (Jvm.Cond.selects "RecordMatcher" ({ cls := "RecordMatcher", name := "length", desc := "(II)I" } : Jvm.MethodName) ({ cls := "RecordMatcher", name := "length", desc := "(II)I" } : Jvm.MethodName)) ∈ zW := zw_in 220 (by decide +kernel) rfl
theorem zm_179 : (Jvm.Cond.code ({ cls := "RecordMatcher", name := "length", desc := "(II)I" } : Jvm.MethodName) prog_1_method_6_code (3 : Nat) (Option.some Jvm.ClassFile.FieldType.int)) ∈ zW := zw_in 221 (by decide +kernel) rfl
theorem zm_180 : (Jvm.Cond.methodLink "RecordMatcherLaw" (36 : Nat) ({ cls := "RecordMatcher", name := "unit", desc := "(III)I" } : Jvm.MethodName)) ∈ zW := zw_in 222 (by decide +kernel) rfl
theorem zm_181 : (Jvm.Cond.instanceMethod ({ cls := "RecordMatcher", name := "unit", desc := "(III)I" } : Jvm.MethodName)) ∈ zW := zw_in 223 (by decide +kernel) rfl
theorem zm_182 : (Jvm.Cond.selects "RecordMatcher" ({ cls := "RecordMatcher", name := "unit", desc := "(III)I" } : Jvm.MethodName) ({ cls := "RecordMatcher", name := "unit", desc := "(III)I" } : Jvm.MethodName)) ∈ zW := zw_in 224 (by decide +kernel) rfl
theorem zm_183 : (Jvm.Cond.code ({ cls := "RecordMatcher", name := "unit", desc := "(III)I" } : Jvm.MethodName) prog_1_method_7_code (5 : Nat) (Option.some Jvm.ClassFile.FieldType.int)) ∈ zW := zw_in 225 (by decide +kernel) rfl
theorem zm_184 : (Jvm.Cond.methodLink "RecordMatcherLaw" (41 : Nat) ({ cls := "RecordMatcher", name := "jaccard", desc := "(III)Z" } : Jvm.MethodName)) ∈ zW := zw_in 226 (by decide +kernel) rfl
theorem zm_185 : (Jvm.Cond.instanceMethod ({ cls := "RecordMatcher", name := "jaccard", desc := "(III)Z" } : Jvm.MethodName)) ∈ zW := zw_in 227 (by decide +kernel) rfl
theorem zm_186 : (Jvm.Cond.selects "RecordMatcher" ({ cls := "RecordMatcher", name := "jaccard", desc := "(III)Z" } : Jvm.MethodName) ({ cls := "RecordMatcher", name := "jaccard", desc := "(III)Z" } : Jvm.MethodName)) ∈ zW := zw_in 228 (by decide +kernel) rfl
theorem zm_187 : (Jvm.Cond.code ({ cls := "RecordMatcher", name := "jaccard", desc := "(III)Z" } : Jvm.MethodName) prog_1_method_8_code (4 : Nat) (Option.some Jvm.ClassFile.FieldType.boolean)) ∈ zW := zw_in 229 (by decide +kernel) rfl
theorem zm_188 : (Jvm.Cond.classLink "RecordMatcher" (71 : Nat) "RecordMatcher$Jaccard") ∈ zW := zw_in 230 (by decide +kernel) rfl
theorem zm_189 : (Jvm.Cond.instantiable "RecordMatcher$Jaccard" (5 : Nat)) ∈ zW := zw_in 231 (by decide +kernel) rfl
theorem zm_190 : (Jvm.Cond.methodLink "RecordMatcher" (73 : Nat) ({ cls := "RecordMatcher$Jaccard", name := "<init>", desc := "(III)V" } : Jvm.MethodName)) ∈ zW := zw_in 232 (by decide +kernel) rfl
theorem zm_191 : (Jvm.Cond.instanceMethod ({ cls := "RecordMatcher$Jaccard", name := "<init>", desc := "(III)V" } : Jvm.MethodName)) ∈ zW := zw_in 233 (by decide +kernel) rfl
theorem zm_192 : (Jvm.Cond.code ({ cls := "RecordMatcher$Jaccard", name := "<init>", desc := "(III)V" } : Jvm.MethodName) prog_5_method_1_code (4 : Nat) (Option.none : Option Jvm.ClassFile.FieldType)) ∈ zW := zw_in 234 (by decide +kernel) rfl
theorem zm_193 : (Jvm.Cond.methodLink "RecordMatcher$Jaccard" (1 : Nat) ({ cls := "RecordMatcher$Expression", name := "<init>", desc := "(IZ)V" } : Jvm.MethodName)) ∈ zW := zw_in 235 (by decide +kernel) rfl
theorem zm_194 : (Jvm.Cond.instanceMethod ({ cls := "RecordMatcher$Expression", name := "<init>", desc := "(IZ)V" } : Jvm.MethodName)) ∈ zW := zw_in 236 (by decide +kernel) rfl
theorem zm_195 : (Jvm.Cond.code ({ cls := "RecordMatcher$Expression", name := "<init>", desc := "(IZ)V" } : Jvm.MethodName) prog_4_method_1_code (3 : Nat) (Option.none : Option Jvm.ClassFile.FieldType)) ∈ zW := zw_in 237 (by decide +kernel) rfl
theorem zm_196 : (Jvm.Cond.methodLink "RecordMatcher$Expression" (1 : Nat) ({ cls := "java/lang/Object", name := "<init>", desc := "()V" } : Jvm.MethodName)) ∈ zW := zw_in 238 (by decide +kernel) rfl
theorem zm_197 : (Jvm.Cond.fieldLink "RecordMatcher$Jaccard" (7 : Nat) "RecordMatcher$Jaccard" "field" "I") ∈ zW := zw_in 239 (by decide +kernel) rfl
theorem zm_198 : (Jvm.Cond.fieldLink "RecordMatcher$Jaccard" (13 : Nat) "RecordMatcher$Jaccard" "num" "I") ∈ zW := zw_in 240 (by decide +kernel) rfl
theorem zm_199 : (Jvm.Cond.fieldLink "RecordMatcher$Jaccard" (16 : Nat) "RecordMatcher$Jaccard" "den" "I") ∈ zW := zw_in 241 (by decide +kernel) rfl
theorem zm_200 : (Jvm.Cond.fieldLink "RecordMatcher$Joined" (1 : Nat) "RecordMatcher$Expression" "comparisons" "I") ∈ zW := zw_in 242 (by decide +kernel) rfl
theorem zm_201 : (Jvm.Cond.fieldLink "RecordMatcher$Expression" (7 : Nat) "RecordMatcher$Expression" "comparisons" "I") ∈ zW := zw_in 243 (by decide +kernel) rfl
theorem zm_202 : (Jvm.Cond.fieldLink "RecordMatcher" (89 : Nat) "RecordMatcher$Expression" "comparisons" "I") ∈ zW := zw_in 244 (by decide +kernel) rfl
theorem zm_203 : (Jvm.Cond.fieldLink "RecordMatcher$Expression" (13 : Nat) "RecordMatcher$Expression" "driven" "Z") ∈ zW := zw_in 245 (by decide +kernel) rfl
theorem zm_204 : (Jvm.Cond.fieldLink "RecordMatcher$Joined" (7 : Nat) "RecordMatcher$Expression" "driven" "Z") ∈ zW := zw_in 246 (by decide +kernel) rfl
theorem zm_205 : (Jvm.Cond.fieldLink "RecordMatcher" (97 : Nat) "RecordMatcher$Expression" "driven" "Z") ∈ zW := zw_in 247 (by decide +kernel) rfl
theorem zm_217 : (Jvm.Cond.methodLink "RecordMatcher" (76 : Nat) ({ cls := "RecordMatcher", name := "push", desc := "(LRecordMatcher$Expression;)V" } : Jvm.MethodName)) ∈ zW := zw_in 259 (by decide +kernel) rfl
theorem zm_219 : (Jvm.Cond.instanceMethod ({ cls := "RecordMatcher", name := "push", desc := "(LRecordMatcher$Expression;)V" } : Jvm.MethodName)) ∈ zW := zw_in 261 (by decide +kernel) rfl
theorem zm_220 : (Jvm.Cond.code ({ cls := "RecordMatcher", name := "push", desc := "(LRecordMatcher$Expression;)V" } : Jvm.MethodName) prog_1_method_27_code (2 : Nat) (Option.none : Option Jvm.ClassFile.FieldType)) ∈ zW := zw_in 262 (by decide +kernel) rfl
theorem zm_221 : (Jvm.Cond.methodLink "RecordMatcherLaw" (46 : Nat) ({ cls := "RecordMatcher", name := "edit", desc := "(II)Z" } : Jvm.MethodName)) ∈ zW := zw_in 263 (by decide +kernel) rfl
theorem zm_222 : (Jvm.Cond.instanceMethod ({ cls := "RecordMatcher", name := "edit", desc := "(II)Z" } : Jvm.MethodName)) ∈ zW := zw_in 264 (by decide +kernel) rfl
theorem zm_223 : (Jvm.Cond.selects "RecordMatcher" ({ cls := "RecordMatcher", name := "edit", desc := "(II)Z" } : Jvm.MethodName) ({ cls := "RecordMatcher", name := "edit", desc := "(II)Z" } : Jvm.MethodName)) ∈ zW := zw_in 265 (by decide +kernel) rfl
theorem zm_224 : (Jvm.Cond.code ({ cls := "RecordMatcher", name := "edit", desc := "(II)Z" } : Jvm.MethodName) prog_1_method_9_code (3 : Nat) (Option.some Jvm.ClassFile.FieldType.boolean)) ∈ zW := zw_in 266 (by decide +kernel) rfl
theorem zm_225 : (Jvm.Cond.classLink "RecordMatcher" (80 : Nat) "RecordMatcher$Edit") ∈ zW := zw_in 267 (by decide +kernel) rfl
theorem zm_226 : (Jvm.Cond.instantiable "RecordMatcher$Edit" (5 : Nat)) ∈ zW := zw_in 268 (by decide +kernel) rfl
theorem zm_227 : (Jvm.Cond.methodLink "RecordMatcher" (82 : Nat) ({ cls := "RecordMatcher$Edit", name := "<init>", desc := "(II)V" } : Jvm.MethodName)) ∈ zW := zw_in 269 (by decide +kernel) rfl
theorem zm_228 : (Jvm.Cond.instanceMethod ({ cls := "RecordMatcher$Edit", name := "<init>", desc := "(II)V" } : Jvm.MethodName)) ∈ zW := zw_in 270 (by decide +kernel) rfl
theorem zm_229 : (Jvm.Cond.code ({ cls := "RecordMatcher$Edit", name := "<init>", desc := "(II)V" } : Jvm.MethodName) prog_2_method_1_code (3 : Nat) (Option.none : Option Jvm.ClassFile.FieldType)) ∈ zW := zw_in 271 (by decide +kernel) rfl
theorem zm_230 : (Jvm.Cond.methodLink "RecordMatcher$Edit" (3 : Nat) ({ cls := "RecordMatcher$Expression", name := "<init>", desc := "(IZ)V" } : Jvm.MethodName)) ∈ zW := zw_in 272 (by decide +kernel) rfl
theorem zm_231 : (Jvm.Cond.fieldLink "RecordMatcher$Edit" (15 : Nat) "RecordMatcher$Edit" "field" "I") ∈ zW := zw_in 273 (by decide +kernel) rfl
theorem zm_232 : (Jvm.Cond.fieldLink "RecordMatcher$Edit" (19 : Nat) "RecordMatcher$Edit" "most" "I") ∈ zW := zw_in 274 (by decide +kernel) rfl
theorem zm_233 : (Jvm.Cond.fieldLink "RecordMatcher$Edit" (9 : Nat) "RecordMatcher$Edit" "row" "[I") ∈ zW := zw_in 275 (by decide +kernel) rfl
theorem zm_243 : (Jvm.Cond.methodLink "RecordMatcherLaw" (51 : Nat) ({ cls := "RecordMatcher", name := "join", desc := "(Z)Z" } : Jvm.MethodName)) ∈ zW := zw_in 285 (by decide +kernel) rfl
theorem zm_244 : (Jvm.Cond.instanceMethod ({ cls := "RecordMatcher", name := "join", desc := "(Z)Z" } : Jvm.MethodName)) ∈ zW := zw_in 286 (by decide +kernel) rfl
theorem zm_245 : (Jvm.Cond.selects "RecordMatcher" ({ cls := "RecordMatcher", name := "join", desc := "(Z)Z" } : Jvm.MethodName) ({ cls := "RecordMatcher", name := "join", desc := "(Z)Z" } : Jvm.MethodName)) ∈ zW := zw_in 287 (by decide +kernel) rfl
theorem zm_246 : (Jvm.Cond.code ({ cls := "RecordMatcher", name := "join", desc := "(Z)Z" } : Jvm.MethodName) prog_1_method_10_code (4 : Nat) (Option.some Jvm.ClassFile.FieldType.boolean)) ∈ zW := zw_in 288 (by decide +kernel) rfl
theorem zm_247 : (Jvm.Cond.methodLink "RecordMatcher" (85 : Nat) ({ cls := "RecordMatcher", name := "fromTop", desc := "(I)LRecordMatcher$Expression;" } : Jvm.MethodName)) ∈ zW := zw_in 289 (by decide +kernel) rfl
theorem zm_249 : (Jvm.Cond.instanceMethod ({ cls := "RecordMatcher", name := "fromTop", desc := "(I)LRecordMatcher$Expression;" } : Jvm.MethodName)) ∈ zW := zw_in 291 (by decide +kernel) rfl
theorem zm_250 : (Jvm.Cond.code ({ cls := "RecordMatcher", name := "fromTop", desc := "(I)LRecordMatcher$Expression;" } : Jvm.MethodName) prog_1_method_26_code (2 : Nat) (Option.some (Jvm.ClassFile.FieldType.object "RecordMatcher$Expression"))) ∈ zW := zw_in 292 (by decide +kernel) rfl
theorem zm_251 : (Jvm.Cond.classLink "RecordMatcher" (92 : Nat) "RecordMatcher$Joined") ∈ zW := zw_in 293 (by decide +kernel) rfl
theorem zm_252 : (Jvm.Cond.instantiable "RecordMatcher$Joined" (5 : Nat)) ∈ zW := zw_in 294 (by decide +kernel) rfl
theorem zm_253 : (Jvm.Cond.methodLink "RecordMatcher" (94 : Nat) ({ cls := "RecordMatcher$Joined", name := "<init>", desc := "(ZLRecordMatcher$Expression;LRecordMatcher$Expression;)V" } : Jvm.MethodName)) ∈ zW := zw_in 295 (by decide +kernel) rfl
theorem zm_254 : (Jvm.Cond.instanceMethod ({ cls := "RecordMatcher$Joined", name := "<init>", desc := "(ZLRecordMatcher$Expression;LRecordMatcher$Expression;)V" } : Jvm.MethodName)) ∈ zW := zw_in 296 (by decide +kernel) rfl
theorem zm_255 : (Jvm.Cond.code ({ cls := "RecordMatcher$Joined", name := "<init>", desc := "(ZLRecordMatcher$Expression;LRecordMatcher$Expression;)V" } : Jvm.MethodName) prog_6_method_1_code (4 : Nat) (Option.none : Option Jvm.ClassFile.FieldType)) ∈ zW := zw_in 297 (by decide +kernel) rfl
theorem zm_256 : (Jvm.Cond.methodLink "RecordMatcher$Joined" (11 : Nat) ({ cls := "RecordMatcher$Expression", name := "<init>", desc := "(IZ)V" } : Jvm.MethodName)) ∈ zW := zw_in 298 (by decide +kernel) rfl
theorem zm_257 : (Jvm.Cond.fieldLink "RecordMatcher$Joined" (15 : Nat) "RecordMatcher$Joined" "all" "Z") ∈ zW := zw_in 299 (by decide +kernel) rfl
theorem zm_258 : (Jvm.Cond.fieldLink "RecordMatcher$Joined" (20 : Nat) "RecordMatcher$Joined" "lower" "LRecordMatcher$Expression;") ∈ zW := zw_in 300 (by decide +kernel) rfl
theorem zm_259 : (Jvm.Cond.fieldLink "RecordMatcher$Joined" (24 : Nat) "RecordMatcher$Joined" "upper" "LRecordMatcher$Expression;") ∈ zW := zw_in 301 (by decide +kernel) rfl
theorem zm_269 : (Jvm.Cond.methodLink "RecordMatcherLaw" (56 : Nat) ({ cls := "RecordMatcher", name := "accept", desc := "()I" } : Jvm.MethodName)) ∈ zW := zw_in 311 (by decide +kernel) rfl
theorem zm_270 : (Jvm.Cond.instanceMethod ({ cls := "RecordMatcher", name := "accept", desc := "()I" } : Jvm.MethodName)) ∈ zW := zw_in 312 (by decide +kernel) rfl
theorem zm_271 : (Jvm.Cond.selects "RecordMatcher" ({ cls := "RecordMatcher", name := "accept", desc := "()I" } : Jvm.MethodName) ({ cls := "RecordMatcher", name := "accept", desc := "()I" } : Jvm.MethodName)) ∈ zW := zw_in 313 (by decide +kernel) rfl
theorem zm_272 : (Jvm.Cond.code ({ cls := "RecordMatcher", name := "accept", desc := "()I" } : Jvm.MethodName) prog_1_method_11_code (2 : Nat) (Option.some Jvm.ClassFile.FieldType.int)) ∈ zW := zw_in 314 (by decide +kernel) rfl
theorem zm_273 : (Jvm.Cond.methodLink "RecordMatcherLaw" (60 : Nat) ({ cls := "RecordMatcher", name := "discard", desc := "()Z" } : Jvm.MethodName)) ∈ zW := zw_in 315 (by decide +kernel) rfl
theorem zm_274 : (Jvm.Cond.instanceMethod ({ cls := "RecordMatcher", name := "discard", desc := "()Z" } : Jvm.MethodName)) ∈ zW := zw_in 316 (by decide +kernel) rfl
theorem zm_275 : (Jvm.Cond.selects "RecordMatcher" ({ cls := "RecordMatcher", name := "discard", desc := "()Z" } : Jvm.MethodName) ({ cls := "RecordMatcher", name := "discard", desc := "()Z" } : Jvm.MethodName)) ∈ zW := zw_in 317 (by decide +kernel) rfl
theorem zm_276 : (Jvm.Cond.code ({ cls := "RecordMatcher", name := "discard", desc := "()Z" } : Jvm.MethodName) prog_1_method_12_code (1 : Nat) (Option.some Jvm.ClassFile.FieldType.boolean)) ∈ zW := zw_in 318 (by decide +kernel) rfl
theorem zm_277 : (Jvm.Cond.methodLink "RecordMatcherLaw" (65 : Nat) ({ cls := "RecordMatcher", name := "similar", desc := "(II)I" } : Jvm.MethodName)) ∈ zW := zw_in 319 (by decide +kernel) rfl
theorem zm_278 : (Jvm.Cond.instanceMethod ({ cls := "RecordMatcher", name := "similar", desc := "(II)I" } : Jvm.MethodName)) ∈ zW := zw_in 320 (by decide +kernel) rfl
theorem zm_279 : (Jvm.Cond.selects "RecordMatcher" ({ cls := "RecordMatcher", name := "similar", desc := "(II)I" } : Jvm.MethodName) ({ cls := "RecordMatcher", name := "similar", desc := "(II)I" } : Jvm.MethodName)) ∈ zW := zw_in 321 (by decide +kernel) rfl
theorem zm_280 : (Jvm.Cond.code ({ cls := "RecordMatcher", name := "similar", desc := "(II)I" } : Jvm.MethodName) prog_1_method_13_code (3 : Nat) (Option.some Jvm.ClassFile.FieldType.int)) ∈ zW := zw_in 322 (by decide +kernel) rfl
theorem zm_281 : (Jvm.Cond.methodLink "RecordMatcher" (105 : Nat) ({ cls := "RecordMatcher", name := "areTwoRecords", desc := "(II)Z" } : Jvm.MethodName)) ∈ zW := zw_in 323 (by decide +kernel) rfl
theorem zm_283 : (Jvm.Cond.instanceMethod ({ cls := "RecordMatcher", name := "areTwoRecords", desc := "(II)Z" } : Jvm.MethodName)) ∈ zW := zw_in 325 (by decide +kernel) rfl
theorem zm_284 : (Jvm.Cond.code ({ cls := "RecordMatcher", name := "areTwoRecords", desc := "(II)Z" } : Jvm.MethodName) prog_1_method_24_code (3 : Nat) (Option.some Jvm.ClassFile.FieldType.boolean)) ∈ zW := zw_in 326 (by decide +kernel) rfl
theorem zm_285 : (Jvm.Cond.methodLink "RecordMatcher" (109 : Nat) ({ cls := "RecordMatcher$Expression", name := "holdsOf", desc := "(LRecordMatcher$Entry;LRecordMatcher$Entry;)Z" } : Jvm.MethodName)) ∈ zW := zw_in 327 (by decide +kernel) rfl
theorem zm_287 : (Jvm.Cond.sameMethod "RecordMatcher$Expression" "RecordMatcher$Expression" "holdsOf" "(LRecordMatcher$Entry;LRecordMatcher$Entry;)Z") ∈ zW := zw_in 329 (by decide +kernel) rfl
theorem zm_288 : (Jvm.Cond.selects "RecordMatcher$Edit" ({ cls := "RecordMatcher$Expression", name := "holdsOf", desc := "(LRecordMatcher$Entry;LRecordMatcher$Entry;)Z" } : Jvm.MethodName) ({ cls := "RecordMatcher$Edit", name := "holdsOf", desc := "(LRecordMatcher$Entry;LRecordMatcher$Entry;)Z" } : Jvm.MethodName)) ∈ zW := zw_in 330 (by decide +kernel) rfl
theorem zm_289 : (Jvm.Cond.instanceMethod ({ cls := "RecordMatcher$Edit", name := "holdsOf", desc := "(LRecordMatcher$Entry;LRecordMatcher$Entry;)Z" } : Jvm.MethodName)) ∈ zW := zw_in 331 (by decide +kernel) rfl
theorem zm_290 : (Jvm.Cond.code ({ cls := "RecordMatcher$Edit", name := "holdsOf", desc := "(LRecordMatcher$Entry;LRecordMatcher$Entry;)Z" } : Jvm.MethodName) prog_2_method_2_code (3 : Nat) (Option.some Jvm.ClassFile.FieldType.boolean)) ∈ zW := zw_in 332 (by decide +kernel) rfl
theorem zm_291 : (Jvm.Cond.methodLink "RecordMatcher$Edit" (22 : Nat) ({ cls := "RecordMatcher$Entry", name := "text", desc := "(I)LRecordMatcher$Text;" } : Jvm.MethodName)) ∈ zW := zw_in 333 (by decide +kernel) rfl
theorem zm_292 : (Jvm.Cond.methodLink "RecordMatcher$Edit" (28 : Nat) ({ cls := "RecordMatcher$Edit", name := "countSteps", desc := "(LRecordMatcher$Text;LRecordMatcher$Text;)I" } : Jvm.MethodName)) ∈ zW := zw_in 334 (by decide +kernel) rfl
theorem zm_294 : (Jvm.Cond.instanceMethod ({ cls := "RecordMatcher$Edit", name := "countSteps", desc := "(LRecordMatcher$Text;LRecordMatcher$Text;)I" } : Jvm.MethodName)) ∈ zW := zw_in 336 (by decide +kernel) rfl
theorem zm_295 : (Jvm.Cond.code ({ cls := "RecordMatcher$Edit", name := "countSteps", desc := "(LRecordMatcher$Text;LRecordMatcher$Text;)I" } : Jvm.MethodName) prog_2_method_3_code (4 : Nat) (Option.some Jvm.ClassFile.FieldType.int)) ∈ zW := zw_in 337 (by decide +kernel) rfl
theorem zm_296 : (Jvm.Cond.methodLink "RecordMatcher$Edit" (41 : Nat) ({ cls := "RecordMatcher$Edit", name := "goThrough", desc := "(CLRecordMatcher$Text;)V" } : Jvm.MethodName)) ∈ zW := zw_in 338 (by decide +kernel) rfl
theorem zm_298 : (Jvm.Cond.instanceMethod ({ cls := "RecordMatcher$Edit", name := "goThrough", desc := "(CLRecordMatcher$Text;)V" } : Jvm.MethodName)) ∈ zW := zw_in 340 (by decide +kernel) rfl
theorem zm_299 : (Jvm.Cond.code ({ cls := "RecordMatcher$Edit", name := "goThrough", desc := "(CLRecordMatcher$Text;)V" } : Jvm.MethodName) prog_2_method_4_code (6 : Nat) (Option.none : Option Jvm.ClassFile.FieldType)) ∈ zW := zw_in 341 (by decide +kernel) rfl
theorem zm_300 : (Jvm.Cond.methodLink "RecordMatcher$Edit" (45 : Nat) ({ cls := "java/lang/Math", name := "min", desc := "(II)I" } : Jvm.MethodName)) ∈ zW := zw_in 342 (by decide +kernel) rfl
theorem zm_301 : (Jvm.Cond.static ({ cls := "java/lang/Math", name := "min", desc := "(II)I" } : Jvm.MethodName)) ∈ zW := zw_in 343 (by decide +kernel) rfl
theorem zm_302 : (Jvm.Cond.code ({ cls := "java/lang/Math", name := "min", desc := "(II)I" } : Jvm.MethodName) prog_11_method_69_code (2 : Nat) (Option.some Jvm.ClassFile.FieldType.int)) ∈ zW := zw_in 344 (by decide +kernel) rfl
theorem zm_303 : (Jvm.Cond.selects "RecordMatcher$Jaccard" ({ cls := "RecordMatcher$Expression", name := "holdsOf", desc := "(LRecordMatcher$Entry;LRecordMatcher$Entry;)Z" } : Jvm.MethodName) ({ cls := "RecordMatcher$Jaccard", name := "holdsOf", desc := "(LRecordMatcher$Entry;LRecordMatcher$Entry;)Z" } : Jvm.MethodName)) ∈ zW := zw_in 345 (by decide +kernel) rfl
theorem zm_304 : (Jvm.Cond.instanceMethod ({ cls := "RecordMatcher$Jaccard", name := "holdsOf", desc := "(LRecordMatcher$Entry;LRecordMatcher$Entry;)Z" } : Jvm.MethodName)) ∈ zW := zw_in 346 (by decide +kernel) rfl
theorem zm_305 : (Jvm.Cond.code ({ cls := "RecordMatcher$Jaccard", name := "holdsOf", desc := "(LRecordMatcher$Entry;LRecordMatcher$Entry;)Z" } : Jvm.MethodName) prog_5_method_2_code (7 : Nat) (Option.some Jvm.ClassFile.FieldType.boolean)) ∈ zW := zw_in 347 (by decide +kernel) rfl
theorem zm_306 : (Jvm.Cond.methodLink "RecordMatcher$Jaccard" (19 : Nat) ({ cls := "RecordMatcher$Entry", name := "text", desc := "(I)LRecordMatcher$Text;" } : Jvm.MethodName)) ∈ zW := zw_in 348 (by decide +kernel) rfl
theorem zm_307 : (Jvm.Cond.methodLink "RecordMatcher$Jaccard" (25 : Nat) ({ cls := "RecordMatcher$Text", name := "countWordsSharedWith", desc := "(LRecordMatcher$Text;)I" } : Jvm.MethodName)) ∈ zW := zw_in 349 (by decide +kernel) rfl
theorem zm_308 : (Jvm.Cond.instanceMethod ({ cls := "RecordMatcher$Text", name := "countWordsSharedWith", desc := "(LRecordMatcher$Text;)I" } : Jvm.MethodName)) ∈ zW := zw_in 350 (by decide +kernel) rfl
theorem zm_309 : (Jvm.Cond.selects "RecordMatcher$Text" ({ cls := "RecordMatcher$Text", name := "countWordsSharedWith", desc := "(LRecordMatcher$Text;)I" } : Jvm.MethodName) ({ cls := "RecordMatcher$Text", name := "countWordsSharedWith", desc := "(LRecordMatcher$Text;)I" } : Jvm.MethodName)) ∈ zW := zw_in 351 (by decide +kernel) rfl
theorem zm_310 : (Jvm.Cond.code ({ cls := "RecordMatcher$Text", name := "countWordsSharedWith", desc := "(LRecordMatcher$Text;)I" } : Jvm.MethodName) prog_8_method_7_code (4 : Nat) (Option.some Jvm.ClassFile.FieldType.int)) ∈ zW := zw_in 352 (by decide +kernel) rfl
theorem zm_311 : (Jvm.Cond.methodLink "RecordMatcher$Jaccard" (31 : Nat) ({ cls := "RecordMatcher$Text", name := "wordSetSize", desc := "()I" } : Jvm.MethodName)) ∈ zW := zw_in 353 (by decide +kernel) rfl
theorem zm_312 : (Jvm.Cond.selects "RecordMatcher$Joined" ({ cls := "RecordMatcher$Expression", name := "holdsOf", desc := "(LRecordMatcher$Entry;LRecordMatcher$Entry;)Z" } : Jvm.MethodName) ({ cls := "RecordMatcher$Joined", name := "holdsOf", desc := "(LRecordMatcher$Entry;LRecordMatcher$Entry;)Z" } : Jvm.MethodName)) ∈ zW := zw_in 354 (by decide +kernel) rfl
theorem zm_313 : (Jvm.Cond.instanceMethod ({ cls := "RecordMatcher$Joined", name := "holdsOf", desc := "(LRecordMatcher$Entry;LRecordMatcher$Entry;)Z" } : Jvm.MethodName)) ∈ zW := zw_in 355 (by decide +kernel) rfl
theorem zm_314 : (Jvm.Cond.code ({ cls := "RecordMatcher$Joined", name := "holdsOf", desc := "(LRecordMatcher$Entry;LRecordMatcher$Entry;)Z" } : Jvm.MethodName) prog_6_method_2_code (3 : Nat) (Option.some Jvm.ClassFile.FieldType.boolean)) ∈ zW := zw_in 356 (by decide +kernel) rfl
theorem zm_315 : (Jvm.Cond.methodLink "RecordMatcher$Joined" (27 : Nat) ({ cls := "RecordMatcher$Expression", name := "holdsOf", desc := "(LRecordMatcher$Entry;LRecordMatcher$Entry;)Z" } : Jvm.MethodName)) ∈ zW := zw_in 357 (by decide +kernel) rfl
theorem zm_316 : (Jvm.Cond.methodLink "RecordMatcherLaw" (69 : Nat) ({ cls := "RecordMatcher", name := "start", desc := "(I)I" } : Jvm.MethodName)) ∈ zW := zw_in 358 (by decide +kernel) rfl
theorem zm_317 : (Jvm.Cond.instanceMethod ({ cls := "RecordMatcher", name := "start", desc := "(I)I" } : Jvm.MethodName)) ∈ zW := zw_in 359 (by decide +kernel) rfl
theorem zm_318 : (Jvm.Cond.selects "RecordMatcher" ({ cls := "RecordMatcher", name := "start", desc := "(I)I" } : Jvm.MethodName) ({ cls := "RecordMatcher", name := "start", desc := "(I)I" } : Jvm.MethodName)) ∈ zW := zw_in 360 (by decide +kernel) rfl
theorem zm_319 : (Jvm.Cond.code ({ cls := "RecordMatcher", name := "start", desc := "(I)I" } : Jvm.MethodName) prog_1_method_14_code (2 : Nat) (Option.some Jvm.ClassFile.FieldType.int)) ∈ zW := zw_in 361 (by decide +kernel) rfl
theorem zm_320 : (Jvm.Cond.methodLink "RecordMatcher" (113 : Nat) ({ cls := "RecordMatcher$Run", name := "begin", desc := "(II)V" } : Jvm.MethodName)) ∈ zW := zw_in 362 (by decide +kernel) rfl
theorem zm_321 : (Jvm.Cond.instanceMethod ({ cls := "RecordMatcher$Run", name := "begin", desc := "(II)V" } : Jvm.MethodName)) ∈ zW := zw_in 363 (by decide +kernel) rfl
theorem zm_322 : (Jvm.Cond.selects "RecordMatcher$Run" ({ cls := "RecordMatcher$Run", name := "begin", desc := "(II)V" } : Jvm.MethodName) ({ cls := "RecordMatcher$Run", name := "begin", desc := "(II)V" } : Jvm.MethodName)) ∈ zW := zw_in 364 (by decide +kernel) rfl
theorem zm_323 : (Jvm.Cond.code ({ cls := "RecordMatcher$Run", name := "begin", desc := "(II)V" } : Jvm.MethodName) prog_7_method_2_code (4 : Nat) (Option.none : Option Jvm.ClassFile.FieldType)) ∈ zW := zw_in 365 (by decide +kernel) rfl
theorem zm_324 : (Jvm.Cond.methodLink "RecordMatcherLaw" (74 : Nat) ({ cls := "RecordMatcher", name := "work", desc := "(I)I" } : Jvm.MethodName)) ∈ zW := zw_in 366 (by decide +kernel) rfl
theorem zm_325 : (Jvm.Cond.instanceMethod ({ cls := "RecordMatcher", name := "work", desc := "(I)I" } : Jvm.MethodName)) ∈ zW := zw_in 367 (by decide +kernel) rfl
theorem zm_326 : (Jvm.Cond.selects "RecordMatcher" ({ cls := "RecordMatcher", name := "work", desc := "(I)I" } : Jvm.MethodName) ({ cls := "RecordMatcher", name := "work", desc := "(I)I" } : Jvm.MethodName)) ∈ zW := zw_in 368 (by decide +kernel) rfl
theorem zm_327 : (Jvm.Cond.code ({ cls := "RecordMatcher", name := "work", desc := "(I)I" } : Jvm.MethodName) prog_1_method_15_code (5 : Nat) (Option.some Jvm.ClassFile.FieldType.int)) ∈ zW := zw_in 369 (by decide +kernel) rfl
theorem zm_328 : (Jvm.Cond.methodLink "RecordMatcher" (116 : Nat) ({ cls := "RecordMatcher$Run", name := "isOpen", desc := "()Z" } : Jvm.MethodName)) ∈ zW := zw_in 370 (by decide +kernel) rfl
theorem zm_329 : (Jvm.Cond.instanceMethod ({ cls := "RecordMatcher$Run", name := "isOpen", desc := "()Z" } : Jvm.MethodName)) ∈ zW := zw_in 371 (by decide +kernel) rfl
theorem zm_330 : (Jvm.Cond.selects "RecordMatcher$Run" ({ cls := "RecordMatcher$Run", name := "isOpen", desc := "()Z" } : Jvm.MethodName) ({ cls := "RecordMatcher$Run", name := "isOpen", desc := "()Z" } : Jvm.MethodName)) ∈ zW := zw_in 372 (by decide +kernel) rfl
theorem zm_331 : (Jvm.Cond.code ({ cls := "RecordMatcher$Run", name := "isOpen", desc := "()Z" } : Jvm.MethodName) prog_7_method_4_code (1 : Nat) (Option.some Jvm.ClassFile.FieldType.boolean)) ∈ zW := zw_in 373 (by decide +kernel) rfl
theorem zm_332 : (Jvm.Cond.methodLink "RecordMatcher" (120 : Nat) ({ cls := "RecordMatcher$Run", name := "hasWorker", desc := "(I)Z" } : Jvm.MethodName)) ∈ zW := zw_in 374 (by decide +kernel) rfl
theorem zm_333 : (Jvm.Cond.instanceMethod ({ cls := "RecordMatcher$Run", name := "hasWorker", desc := "(I)Z" } : Jvm.MethodName)) ∈ zW := zw_in 375 (by decide +kernel) rfl
theorem zm_334 : (Jvm.Cond.selects "RecordMatcher$Run" ({ cls := "RecordMatcher$Run", name := "hasWorker", desc := "(I)Z" } : Jvm.MethodName) ({ cls := "RecordMatcher$Run", name := "hasWorker", desc := "(I)Z" } : Jvm.MethodName)) ∈ zW := zw_in 376 (by decide +kernel) rfl
theorem zm_335 : (Jvm.Cond.code ({ cls := "RecordMatcher$Run", name := "hasWorker", desc := "(I)Z" } : Jvm.MethodName) prog_7_method_5_code (2 : Nat) (Option.some Jvm.ClassFile.FieldType.boolean)) ∈ zW := zw_in 377 (by decide +kernel) rfl
theorem zm_336 : (Jvm.Cond.methodLink "RecordMatcher" (123 : Nat) ({ cls := "RecordMatcher$Run", name := "nextTask", desc := "(I)I" } : Jvm.MethodName)) ∈ zW := zw_in 378 (by decide +kernel) rfl
theorem zm_337 : (Jvm.Cond.instanceMethod ({ cls := "RecordMatcher$Run", name := "nextTask", desc := "(I)I" } : Jvm.MethodName)) ∈ zW := zw_in 379 (by decide +kernel) rfl
theorem zm_338 : (Jvm.Cond.selects "RecordMatcher$Run" ({ cls := "RecordMatcher$Run", name := "nextTask", desc := "(I)I" } : Jvm.MethodName) ({ cls := "RecordMatcher$Run", name := "nextTask", desc := "(I)I" } : Jvm.MethodName)) ∈ zW := zw_in 380 (by decide +kernel) rfl
theorem zm_339 : (Jvm.Cond.code ({ cls := "RecordMatcher$Run", name := "nextTask", desc := "(I)I" } : Jvm.MethodName) prog_7_method_7_code (2 : Nat) (Option.some Jvm.ClassFile.FieldType.int)) ∈ zW := zw_in 381 (by decide +kernel) rfl
theorem zm_340 : (Jvm.Cond.methodLink "RecordMatcher$Run" (29 : Nat) ({ cls := "RecordMatcher$Run", name := "taskOf", desc := "(II)I" } : Jvm.MethodName)) ∈ zW := zw_in 382 (by decide +kernel) rfl
theorem zm_342 : (Jvm.Cond.instanceMethod ({ cls := "RecordMatcher$Run", name := "taskOf", desc := "(II)I" } : Jvm.MethodName)) ∈ zW := zw_in 384 (by decide +kernel) rfl
theorem zm_343 : (Jvm.Cond.code ({ cls := "RecordMatcher$Run", name := "taskOf", desc := "(II)I" } : Jvm.MethodName) prog_7_method_8_code (3 : Nat) (Option.some Jvm.ClassFile.FieldType.int)) ∈ zW := zw_in 385 (by decide +kernel) rfl
theorem zm_344 : (Jvm.Cond.methodLink "RecordMatcher" (130 : Nat) ({ cls := "RecordMatcher$Run", name := "note", desc := "(II)V" } : Jvm.MethodName)) ∈ zW := zw_in 386 (by decide +kernel) rfl
theorem zm_345 : (Jvm.Cond.instanceMethod ({ cls := "RecordMatcher$Run", name := "note", desc := "(II)V" } : Jvm.MethodName)) ∈ zW := zw_in 387 (by decide +kernel) rfl
theorem zm_346 : (Jvm.Cond.selects "RecordMatcher$Run" ({ cls := "RecordMatcher$Run", name := "note", desc := "(II)V" } : Jvm.MethodName) ({ cls := "RecordMatcher$Run", name := "note", desc := "(II)V" } : Jvm.MethodName)) ∈ zW := zw_in 388 (by decide +kernel) rfl
theorem zm_347 : (Jvm.Cond.code ({ cls := "RecordMatcher$Run", name := "note", desc := "(II)V" } : Jvm.MethodName) prog_7_method_12_code (3 : Nat) (Option.none : Option Jvm.ClassFile.FieldType)) ∈ zW := zw_in 389 (by decide +kernel) rfl
theorem zm_348 : (Jvm.Cond.methodLink "RecordMatcher$Run" (37 : Nat) ({ cls := "RecordMatcher$Run", name := "placeOf", desc := "(II)I" } : Jvm.MethodName)) ∈ zW := zw_in 390 (by decide +kernel) rfl
theorem zm_349 : (Jvm.Cond.static ({ cls := "RecordMatcher$Run", name := "placeOf", desc := "(II)I" } : Jvm.MethodName)) ∈ zW := zw_in 391 (by decide +kernel) rfl
theorem zm_350 : (Jvm.Cond.code ({ cls := "RecordMatcher$Run", name := "placeOf", desc := "(II)I" } : Jvm.MethodName) prog_7_method_14_code (2 : Nat) (Option.some Jvm.ClassFile.FieldType.int)) ∈ zW := zw_in 392 (by decide +kernel) rfl
theorem zm_351 : (Jvm.Cond.methodLink "RecordMatcher" (133 : Nat) ({ cls := "RecordMatcher$Run", name := "finishTask", desc := "(I)V" } : Jvm.MethodName)) ∈ zW := zw_in 393 (by decide +kernel) rfl
theorem zm_352 : (Jvm.Cond.instanceMethod ({ cls := "RecordMatcher$Run", name := "finishTask", desc := "(I)V" } : Jvm.MethodName)) ∈ zW := zw_in 394 (by decide +kernel) rfl
theorem zm_353 : (Jvm.Cond.selects "RecordMatcher$Run" ({ cls := "RecordMatcher$Run", name := "finishTask", desc := "(I)V" } : Jvm.MethodName) ({ cls := "RecordMatcher$Run", name := "finishTask", desc := "(I)V" } : Jvm.MethodName)) ∈ zW := zw_in 395 (by decide +kernel) rfl
theorem zm_354 : (Jvm.Cond.code ({ cls := "RecordMatcher$Run", name := "finishTask", desc := "(I)V" } : Jvm.MethodName) prog_7_method_9_code (2 : Nat) (Option.none : Option Jvm.ClassFile.FieldType)) ∈ zW := zw_in 396 (by decide +kernel) rfl
theorem zm_355 : (Jvm.Cond.methodLink "RecordMatcherLaw" (78 : Nat) ({ cls := "RecordMatcher", name := "crash", desc := "(I)I" } : Jvm.MethodName)) ∈ zW := zw_in 397 (by decide +kernel) rfl
theorem zm_356 : (Jvm.Cond.instanceMethod ({ cls := "RecordMatcher", name := "crash", desc := "(I)I" } : Jvm.MethodName)) ∈ zW := zw_in 398 (by decide +kernel) rfl
theorem zm_357 : (Jvm.Cond.selects "RecordMatcher" ({ cls := "RecordMatcher", name := "crash", desc := "(I)I" } : Jvm.MethodName) ({ cls := "RecordMatcher", name := "crash", desc := "(I)I" } : Jvm.MethodName)) ∈ zW := zw_in 399 (by decide +kernel) rfl
theorem zm_358 : (Jvm.Cond.code ({ cls := "RecordMatcher", name := "crash", desc := "(I)I" } : Jvm.MethodName) prog_1_method_16_code (2 : Nat) (Option.some Jvm.ClassFile.FieldType.int)) ∈ zW := zw_in 400 (by decide +kernel) rfl
theorem zm_359 : (Jvm.Cond.methodLink "RecordMatcher" (137 : Nat) ({ cls := "RecordMatcher$Run", name := "isDone", desc := "()Z" } : Jvm.MethodName)) ∈ zW := zw_in 401 (by decide +kernel) rfl
theorem zm_360 : (Jvm.Cond.instanceMethod ({ cls := "RecordMatcher$Run", name := "isDone", desc := "()Z" } : Jvm.MethodName)) ∈ zW := zw_in 402 (by decide +kernel) rfl
theorem zm_361 : (Jvm.Cond.selects "RecordMatcher$Run" ({ cls := "RecordMatcher$Run", name := "isDone", desc := "()Z" } : Jvm.MethodName) ({ cls := "RecordMatcher$Run", name := "isDone", desc := "()Z" } : Jvm.MethodName)) ∈ zW := zw_in 403 (by decide +kernel) rfl
theorem zm_362 : (Jvm.Cond.code ({ cls := "RecordMatcher$Run", name := "isDone", desc := "()Z" } : Jvm.MethodName) prog_7_method_6_code (3 : Nat) (Option.some Jvm.ClassFile.FieldType.boolean)) ∈ zW := zw_in 404 (by decide +kernel) rfl
theorem zm_363 : (Jvm.Cond.methodLink "RecordMatcher" (140 : Nat) ({ cls := "RecordMatcher$Run", name := "undoTasks", desc := "(I)I" } : Jvm.MethodName)) ∈ zW := zw_in 405 (by decide +kernel) rfl
theorem zm_364 : (Jvm.Cond.instanceMethod ({ cls := "RecordMatcher$Run", name := "undoTasks", desc := "(I)I" } : Jvm.MethodName)) ∈ zW := zw_in 406 (by decide +kernel) rfl
theorem zm_365 : (Jvm.Cond.selects "RecordMatcher$Run" ({ cls := "RecordMatcher$Run", name := "undoTasks", desc := "(I)I" } : Jvm.MethodName) ({ cls := "RecordMatcher$Run", name := "undoTasks", desc := "(I)I" } : Jvm.MethodName)) ∈ zW := zw_in 407 (by decide +kernel) rfl
theorem zm_366 : (Jvm.Cond.code ({ cls := "RecordMatcher$Run", name := "undoTasks", desc := "(I)I" } : Jvm.MethodName) prog_7_method_10_code (4 : Nat) (Option.some Jvm.ClassFile.FieldType.int)) ∈ zW := zw_in 408 (by decide +kernel) rfl
theorem zm_367 : (Jvm.Cond.methodLink "RecordMatcher$Run" (33 : Nat) ({ cls := "RecordMatcher$Run", name := "forgetPairsOf", desc := "(I)V" } : Jvm.MethodName)) ∈ zW := zw_in 409 (by decide +kernel) rfl
theorem zm_369 : (Jvm.Cond.instanceMethod ({ cls := "RecordMatcher$Run", name := "forgetPairsOf", desc := "(I)V" } : Jvm.MethodName)) ∈ zW := zw_in 411 (by decide +kernel) rfl
theorem zm_370 : (Jvm.Cond.code ({ cls := "RecordMatcher$Run", name := "forgetPairsOf", desc := "(I)V" } : Jvm.MethodName) prog_7_method_11_code (3 : Nat) (Option.none : Option Jvm.ClassFile.FieldType)) ∈ zW := zw_in 412 (by decide +kernel) rfl
theorem zm_371 : (Jvm.Cond.methodLink "RecordMatcherLaw" (82 : Nat) ({ cls := "RecordMatcher", name := "pairs", desc := "()I" } : Jvm.MethodName)) ∈ zW := zw_in 413 (by decide +kernel) rfl
theorem zm_372 : (Jvm.Cond.instanceMethod ({ cls := "RecordMatcher", name := "pairs", desc := "()I" } : Jvm.MethodName)) ∈ zW := zw_in 414 (by decide +kernel) rfl
theorem zm_373 : (Jvm.Cond.selects "RecordMatcher" ({ cls := "RecordMatcher", name := "pairs", desc := "()I" } : Jvm.MethodName) ({ cls := "RecordMatcher", name := "pairs", desc := "()I" } : Jvm.MethodName)) ∈ zW := zw_in 415 (by decide +kernel) rfl
theorem zm_374 : (Jvm.Cond.code ({ cls := "RecordMatcher", name := "pairs", desc := "()I" } : Jvm.MethodName) prog_1_method_17_code (1 : Nat) (Option.some Jvm.ClassFile.FieldType.int)) ∈ zW := zw_in 416 (by decide +kernel) rfl
theorem zm_375 : (Jvm.Cond.methodLink "RecordMatcher" (143 : Nat) ({ cls := "RecordMatcher$Run", name := "countPairs", desc := "()I" } : Jvm.MethodName)) ∈ zW := zw_in 417 (by decide +kernel) rfl
theorem zm_376 : (Jvm.Cond.instanceMethod ({ cls := "RecordMatcher$Run", name := "countPairs", desc := "()I" } : Jvm.MethodName)) ∈ zW := zw_in 418 (by decide +kernel) rfl
theorem zm_377 : (Jvm.Cond.selects "RecordMatcher$Run" ({ cls := "RecordMatcher$Run", name := "countPairs", desc := "()I" } : Jvm.MethodName) ({ cls := "RecordMatcher$Run", name := "countPairs", desc := "()I" } : Jvm.MethodName)) ∈ zW := zw_in 419 (by decide +kernel) rfl
theorem zm_378 : (Jvm.Cond.code ({ cls := "RecordMatcher$Run", name := "countPairs", desc := "()I" } : Jvm.MethodName) prog_7_method_15_code (4 : Nat) (Option.some Jvm.ClassFile.FieldType.int)) ∈ zW := zw_in 420 (by decide +kernel) rfl
theorem zm_379 : (Jvm.Cond.methodLink "RecordMatcher$Run" (40 : Nat) ({ cls := "RecordMatcher$Run", name := "isNoted", desc := "(II)Z" } : Jvm.MethodName)) ∈ zW := zw_in 421 (by decide +kernel) rfl
theorem zm_380 : (Jvm.Cond.instanceMethod ({ cls := "RecordMatcher$Run", name := "isNoted", desc := "(II)Z" } : Jvm.MethodName)) ∈ zW := zw_in 422 (by decide +kernel) rfl
theorem zm_381 : (Jvm.Cond.selects "RecordMatcher$Run" ({ cls := "RecordMatcher$Run", name := "isNoted", desc := "(II)Z" } : Jvm.MethodName) ({ cls := "RecordMatcher$Run", name := "isNoted", desc := "(II)Z" } : Jvm.MethodName)) ∈ zW := zw_in 423 (by decide +kernel) rfl
theorem zm_382 : (Jvm.Cond.code ({ cls := "RecordMatcher$Run", name := "isNoted", desc := "(II)Z" } : Jvm.MethodName) prog_7_method_13_code (3 : Nat) (Option.some Jvm.ClassFile.FieldType.boolean)) ∈ zW := zw_in 424 (by decide +kernel) rfl
theorem zm_383 : (Jvm.Cond.methodLink "RecordMatcherLaw" (86 : Nat) ({ cls := "RecordMatcher", name := "found", desc := "(II)I" } : Jvm.MethodName)) ∈ zW := zw_in 425 (by decide +kernel) rfl
theorem zm_384 : (Jvm.Cond.instanceMethod ({ cls := "RecordMatcher", name := "found", desc := "(II)I" } : Jvm.MethodName)) ∈ zW := zw_in 426 (by decide +kernel) rfl
theorem zm_385 : (Jvm.Cond.selects "RecordMatcher" ({ cls := "RecordMatcher", name := "found", desc := "(II)I" } : Jvm.MethodName) ({ cls := "RecordMatcher", name := "found", desc := "(II)I" } : Jvm.MethodName)) ∈ zW := zw_in 427 (by decide +kernel) rfl
theorem zm_386 : (Jvm.Cond.code ({ cls := "RecordMatcher", name := "found", desc := "(II)I" } : Jvm.MethodName) prog_1_method_18_code (3 : Nat) (Option.some Jvm.ClassFile.FieldType.int)) ∈ zW := zw_in 428 (by decide +kernel) rfl
theorem zm_387 : (Jvm.Cond.methodLink "RecordMatcher" (146 : Nat) ({ cls := "java/lang/Math", name := "min", desc := "(II)I" } : Jvm.MethodName)) ∈ zW := zw_in 429 (by decide +kernel) rfl
theorem zm_388 : (Jvm.Cond.methodLink "RecordMatcher" (152 : Nat) ({ cls := "java/lang/Math", name := "max", desc := "(II)I" } : Jvm.MethodName)) ∈ zW := zw_in 430 (by decide +kernel) rfl
theorem zm_389 : (Jvm.Cond.static ({ cls := "java/lang/Math", name := "max", desc := "(II)I" } : Jvm.MethodName)) ∈ zW := zw_in 431 (by decide +kernel) rfl
theorem zm_390 : (Jvm.Cond.code ({ cls := "java/lang/Math", name := "max", desc := "(II)I" } : Jvm.MethodName) prog_11_method_65_code (2 : Nat) (Option.some Jvm.ClassFile.FieldType.int)) ∈ zW := zw_in 432 (by decide +kernel) rfl
theorem zm_391 : (Jvm.Cond.methodLink "RecordMatcher" (155 : Nat) ({ cls := "RecordMatcher$Run", name := "isNoted", desc := "(II)Z" } : Jvm.MethodName)) ∈ zW := zw_in 433 (by decide +kernel) rfl
theorem zm_392 : (Jvm.Cond.methodLink "RecordMatcherLaw" (90 : Nat) ({ cls := "RecordMatcher", name := "cluster", desc := "(I)I" } : Jvm.MethodName)) ∈ zW := zw_in 434 (by decide +kernel) rfl
theorem zm_393 : (Jvm.Cond.instanceMethod ({ cls := "RecordMatcher", name := "cluster", desc := "(I)I" } : Jvm.MethodName)) ∈ zW := zw_in 435 (by decide +kernel) rfl
theorem zm_394 : (Jvm.Cond.selects "RecordMatcher" ({ cls := "RecordMatcher", name := "cluster", desc := "(I)I" } : Jvm.MethodName) ({ cls := "RecordMatcher", name := "cluster", desc := "(I)I" } : Jvm.MethodName)) ∈ zW := zw_in 436 (by decide +kernel) rfl
theorem zm_395 : (Jvm.Cond.code ({ cls := "RecordMatcher", name := "cluster", desc := "(I)I" } : Jvm.MethodName) prog_1_method_19_code (2 : Nat) (Option.some Jvm.ClassFile.FieldType.int)) ∈ zW := zw_in 437 (by decide +kernel) rfl
theorem zm_396 : (Jvm.Cond.methodLink "RecordMatcher" (158 : Nat) ({ cls := "RecordMatcher$Run", name := "gather", desc := "()V" } : Jvm.MethodName)) ∈ zW := zw_in 438 (by decide +kernel) rfl
theorem zm_397 : (Jvm.Cond.instanceMethod ({ cls := "RecordMatcher$Run", name := "gather", desc := "()V" } : Jvm.MethodName)) ∈ zW := zw_in 439 (by decide +kernel) rfl
theorem zm_398 : (Jvm.Cond.selects "RecordMatcher$Run" ({ cls := "RecordMatcher$Run", name := "gather", desc := "()V" } : Jvm.MethodName) ({ cls := "RecordMatcher$Run", name := "gather", desc := "()V" } : Jvm.MethodName)) ∈ zW := zw_in 440 (by decide +kernel) rfl
theorem zm_399 : (Jvm.Cond.code ({ cls := "RecordMatcher$Run", name := "gather", desc := "()V" } : Jvm.MethodName) prog_7_method_16_code (3 : Nat) (Option.none : Option Jvm.ClassFile.FieldType)) ∈ zW := zw_in 441 (by decide +kernel) rfl
theorem zm_400 : (Jvm.Cond.methodLink "RecordMatcher$Run" (44 : Nat) ({ cls := "RecordMatcher$Run", name := "unite", desc := "(II)V" } : Jvm.MethodName)) ∈ zW := zw_in 442 (by decide +kernel) rfl
theorem zm_402 : (Jvm.Cond.instanceMethod ({ cls := "RecordMatcher$Run", name := "unite", desc := "(II)V" } : Jvm.MethodName)) ∈ zW := zw_in 444 (by decide +kernel) rfl
theorem zm_403 : (Jvm.Cond.code ({ cls := "RecordMatcher$Run", name := "unite", desc := "(II)V" } : Jvm.MethodName) prog_7_method_17_code (6 : Nat) (Option.none : Option Jvm.ClassFile.FieldType)) ∈ zW := zw_in 445 (by decide +kernel) rfl
theorem zm_404 : (Jvm.Cond.methodLink "RecordMatcher$Run" (48 : Nat) ({ cls := "java/lang/Math", name := "min", desc := "(II)I" } : Jvm.MethodName)) ∈ zW := zw_in 446 (by decide +kernel) rfl
theorem zm_405 : (Jvm.Cond.methodLink "RecordMatcher$Run" (53 : Nat) ({ cls := "java/lang/Math", name := "max", desc := "(II)I" } : Jvm.MethodName)) ∈ zW := zw_in 447 (by decide +kernel) rfl
theorem zm_406 : (Jvm.Cond.methodLink "RecordMatcherLaw" (94 : Nat) ({ cls := "RecordMatcher", name := "keep", desc := "(II)Z" } : Jvm.MethodName)) ∈ zW := zw_in 448 (by decide +kernel) rfl
theorem zm_407 : (Jvm.Cond.instanceMethod ({ cls := "RecordMatcher", name := "keep", desc := "(II)Z" } : Jvm.MethodName)) ∈ zW := zw_in 449 (by decide +kernel) rfl
theorem zm_408 : (Jvm.Cond.selects "RecordMatcher" ({ cls := "RecordMatcher", name := "keep", desc := "(II)Z" } : Jvm.MethodName) ({ cls := "RecordMatcher", name := "keep", desc := "(II)Z" } : Jvm.MethodName)) ∈ zW := zw_in 450 (by decide +kernel) rfl
theorem zm_409 : (Jvm.Cond.code ({ cls := "RecordMatcher", name := "keep", desc := "(II)Z" } : Jvm.MethodName) prog_1_method_20_code (3 : Nat) (Option.some Jvm.ClassFile.FieldType.boolean)) ∈ zW := zw_in 451 (by decide +kernel) rfl
theorem zm_410 : (Jvm.Cond.methodLink "RecordMatcherLaw" (98 : Nat) ({ cls := "RecordMatcher", name := "kept", desc := "(II)I" } : Jvm.MethodName)) ∈ zW := zw_in 452 (by decide +kernel) rfl
theorem zm_411 : (Jvm.Cond.instanceMethod ({ cls := "RecordMatcher", name := "kept", desc := "(II)I" } : Jvm.MethodName)) ∈ zW := zw_in 453 (by decide +kernel) rfl
theorem zm_412 : (Jvm.Cond.selects "RecordMatcher" ({ cls := "RecordMatcher", name := "kept", desc := "(II)I" } : Jvm.MethodName) ({ cls := "RecordMatcher", name := "kept", desc := "(II)I" } : Jvm.MethodName)) ∈ zW := zw_in 454 (by decide +kernel) rfl
theorem zm_413 : (Jvm.Cond.code ({ cls := "RecordMatcher", name := "kept", desc := "(II)I" } : Jvm.MethodName) prog_1_method_21_code (3 : Nat) (Option.some Jvm.ClassFile.FieldType.int)) ∈ zW := zw_in 455 (by decide +kernel) rfl
theorem zm_414 : (Jvm.Cond.methodLink "RecordMatcher" (164 : Nat) ({ cls := "RecordMatcher", name := "bestOfCluster", desc := "(II)I" } : Jvm.MethodName)) ∈ zW := zw_in 456 (by decide +kernel) rfl
theorem zm_416 : (Jvm.Cond.instanceMethod ({ cls := "RecordMatcher", name := "bestOfCluster", desc := "(II)I" } : Jvm.MethodName)) ∈ zW := zw_in 458 (by decide +kernel) rfl
theorem zm_417 : (Jvm.Cond.code ({ cls := "RecordMatcher", name := "bestOfCluster", desc := "(II)I" } : Jvm.MethodName) prog_1_method_28_code (5 : Nat) (Option.some Jvm.ClassFile.FieldType.int)) ∈ zW := zw_in 459 (by decide +kernel) rfl
theorem zm_418 : (Jvm.Cond.methodLink "RecordMatcher" (171 : Nat) ({ cls := "RecordMatcher", name := "isBetter", desc := "(III)Z" } : Jvm.MethodName)) ∈ zW := zw_in 460 (by decide +kernel) rfl
theorem zm_420 : (Jvm.Cond.instanceMethod ({ cls := "RecordMatcher", name := "isBetter", desc := "(III)Z" } : Jvm.MethodName)) ∈ zW := zw_in 462 (by decide +kernel) rfl
theorem zm_421 : (Jvm.Cond.code ({ cls := "RecordMatcher", name := "isBetter", desc := "(III)Z" } : Jvm.MethodName) prog_1_method_29_code (6 : Nat) (Option.some Jvm.ClassFile.FieldType.boolean)) ∈ zW := zw_in 463 (by decide +kernel) rfl
theorem zm_422 : (Jvm.Cond.methodLink "RecordMatcher" (175 : Nat) ({ cls := "RecordMatcher", name := "countHavingTextOf", desc := "(II)I" } : Jvm.MethodName)) ∈ zW := zw_in 464 (by decide +kernel) rfl
theorem zm_424 : (Jvm.Cond.instanceMethod ({ cls := "RecordMatcher", name := "countHavingTextOf", desc := "(II)I" } : Jvm.MethodName)) ∈ zW := zw_in 466 (by decide +kernel) rfl
theorem zm_425 : (Jvm.Cond.code ({ cls := "RecordMatcher", name := "countHavingTextOf", desc := "(II)I" } : Jvm.MethodName) prog_1_method_30_code (6 : Nat) (Option.some Jvm.ClassFile.FieldType.int)) ∈ zW := zw_in 467 (by decide +kernel) rfl
theorem zm_426 : (Jvm.Cond.methodLink "RecordMatcher" (178 : Nat) ({ cls := "RecordMatcher$Text", name := "compareWith", desc := "(LRecordMatcher$Text;)I" } : Jvm.MethodName)) ∈ zW := zw_in 468 (by decide +kernel) rfl
theorem zm_427 : (Jvm.Cond.instanceMethod ({ cls := "RecordMatcher$Text", name := "compareWith", desc := "(LRecordMatcher$Text;)I" } : Jvm.MethodName)) ∈ zW := zw_in 469 (by decide +kernel) rfl
theorem zm_428 : (Jvm.Cond.selects "RecordMatcher$Text" ({ cls := "RecordMatcher$Text", name := "compareWith", desc := "(LRecordMatcher$Text;)I" } : Jvm.MethodName) ({ cls := "RecordMatcher$Text", name := "compareWith", desc := "(LRecordMatcher$Text;)I" } : Jvm.MethodName)) ∈ zW := zw_in 470 (by decide +kernel) rfl
theorem zm_429 : (Jvm.Cond.code ({ cls := "RecordMatcher$Text", name := "compareWith", desc := "(LRecordMatcher$Text;)I" } : Jvm.MethodName) prog_8_method_12_code (4 : Nat) (Option.some Jvm.ClassFile.FieldType.int)) ∈ zW := zw_in 471 (by decide +kernel) rfl
theorem zm_430 : (Jvm.Cond.methodLink "RecordMatcher$Text" (52 : Nat) ({ cls := "java/lang/Math", name := "min", desc := "(II)I" } : Jvm.MethodName)) ∈ zW := zw_in 472 (by decide +kernel) rfl
theorem zm_431 : (Jvm.Cond.classLink "RecordMatcherLaw" (10 : Nat) "RecordMatcherModel") ∈ zW := zw_in 473 (by decide +kernel) rfl
theorem zm_432 : (Jvm.Cond.instantiable "RecordMatcherModel" (22 : Nat)) ∈ zW := zw_in 474 (by decide +kernel) rfl
theorem zm_433 : (Jvm.Cond.methodLink "RecordMatcherLaw" (12 : Nat) ({ cls := "RecordMatcherModel", name := "<init>", desc := "()V" } : Jvm.MethodName)) ∈ zW := zw_in 475 (by decide +kernel) rfl
theorem zm_434 : (Jvm.Cond.instanceMethod ({ cls := "RecordMatcherModel", name := "<init>", desc := "()V" } : Jvm.MethodName)) ∈ zW := zw_in 476 (by decide +kernel) rfl
theorem zm_435 : (Jvm.Cond.code ({ cls := "RecordMatcherModel", name := "<init>", desc := "()V" } : Jvm.MethodName) prog_10_method_1_code (1 : Nat) (Option.none : Option Jvm.ClassFile.FieldType)) ∈ zW := zw_in 477 (by decide +kernel) rfl
theorem zm_436 : (Jvm.Cond.methodLink "RecordMatcherModel" (1 : Nat) ({ cls := "java/lang/Object", name := "<init>", desc := "()V" } : Jvm.MethodName)) ∈ zW := zw_in 478 (by decide +kernel) rfl
theorem zm_437 : (Jvm.Cond.fieldLink "RecordMatcherModel" (7 : Nat) "RecordMatcherModel" "raw" "[I") ∈ zW := zw_in 479 (by decide +kernel) rfl
theorem zm_438 : (Jvm.Cond.fieldLink "RecordMatcherModel" (13 : Nat) "RecordMatcherModel" "size" "[I") ∈ zW := zw_in 480 (by decide +kernel) rfl
theorem zm_439 : (Jvm.Cond.fieldLink "RecordMatcherModel" (65 : Nat) "RecordMatcherModel" "records" "I") ∈ zW := zw_in 481 (by decide +kernel) rfl
theorem zm_440 : (Jvm.Cond.fieldLink "RecordMatcherModel" (16 : Nat) "RecordMatcherModel" "normal" "[I") ∈ zW := zw_in 482 (by decide +kernel) rfl
theorem zm_441 : (Jvm.Cond.fieldLink "RecordMatcherModel" (19 : Nat) "RecordMatcherModel" "normalSize" "[I") ∈ zW := zw_in 483 (by decide +kernel) rfl
theorem zm_442 : (Jvm.Cond.fieldLink "RecordMatcherModel" (22 : Nat) "RecordMatcherModel" "steps" "[I") ∈ zW := zw_in 484 (by decide +kernel) rfl
theorem zm_443 : (Jvm.Cond.fieldLink "RecordMatcherModel" (25 : Nat) "RecordMatcherModel" "kind" "[I") ∈ zW := zw_in 485 (by decide +kernel) rfl
theorem zm_444 : (Jvm.Cond.fieldLink "RecordMatcherModel" (28 : Nat) "RecordMatcherModel" "field" "[I") ∈ zW := zw_in 486 (by decide +kernel) rfl
theorem zm_445 : (Jvm.Cond.fieldLink "RecordMatcherModel" (31 : Nat) "RecordMatcherModel" "num" "[I") ∈ zW := zw_in 487 (by decide +kernel) rfl
theorem zm_446 : (Jvm.Cond.fieldLink "RecordMatcherModel" (34 : Nat) "RecordMatcherModel" "den" "[I") ∈ zW := zw_in 488 (by decide +kernel) rfl
theorem zm_447 : (Jvm.Cond.fieldLink "RecordMatcherModel" (37 : Nat) "RecordMatcherModel" "start" "[I") ∈ zW := zw_in 489 (by decide +kernel) rfl
theorem zm_448 : (Jvm.Cond.fieldLink "RecordMatcherModel" (109 : Nat) "RecordMatcherModel" "top" "I") ∈ zW := zw_in 490 (by decide +kernel) rfl
theorem zm_449 : (Jvm.Cond.fieldLink "RecordMatcherModel" (130 : Nat) "RecordMatcherModel" "ruleSize" "I") ∈ zW := zw_in 491 (by decide +kernel) rfl
theorem zm_450 : (Jvm.Cond.fieldLink "RecordMatcherModel" (40 : Nat) "RecordMatcherModel" "ruleKind" "[I") ∈ zW := zw_in 492 (by decide +kernel) rfl
theorem zm_451 : (Jvm.Cond.fieldLink "RecordMatcherModel" (43 : Nat) "RecordMatcherModel" "ruleField" "[I") ∈ zW := zw_in 493 (by decide +kernel) rfl
theorem zm_452 : (Jvm.Cond.fieldLink "RecordMatcherModel" (46 : Nat) "RecordMatcherModel" "ruleNum" "[I") ∈ zW := zw_in 494 (by decide +kernel) rfl
theorem zm_453 : (Jvm.Cond.fieldLink "RecordMatcherModel" (49 : Nat) "RecordMatcherModel" "ruleDen" "[I") ∈ zW := zw_in 495 (by decide +kernel) rfl
theorem zm_454 : (Jvm.Cond.fieldLink "RecordMatcherModel" (52 : Nat) "RecordMatcherModel" "held" "[Z") ∈ zW := zw_in 496 (by decide +kernel) rfl
theorem zm_455 : (Jvm.Cond.fieldLink "RecordMatcherModel" (73 : Nat) "RecordMatcherModel" "workers" "I") ∈ zW := zw_in 497 (by decide +kernel) rfl
theorem zm_456 : (Jvm.Cond.fieldLink "RecordMatcherModel" (56 : Nat) "RecordMatcherModel" "did" "[I") ∈ zW := zw_in 498 (by decide +kernel) rfl
theorem zm_457 : (Jvm.Cond.fieldLink "RecordMatcherModel" (59 : Nat) "RecordMatcherModel" "keeps" "[I") ∈ zW := zw_in 499 (by decide +kernel) rfl
theorem zm_458 : (Jvm.Cond.fieldLink "RecordMatcherModel" (62 : Nat) "RecordMatcherModel" "label" "[I") ∈ zW := zw_in 500 (by decide +kernel) rfl
theorem zm_504 : (Jvm.Cond.methodLink "RecordMatcherLaw" (17 : Nat) ({ cls := "RecordMatcherModel", name := "type", desc := "(IC)Z" } : Jvm.MethodName)) ∈ zW := zw_in 546 (by decide +kernel) rfl
theorem zm_505 : (Jvm.Cond.instanceMethod ({ cls := "RecordMatcherModel", name := "type", desc := "(IC)Z" } : Jvm.MethodName)) ∈ zW := zw_in 547 (by decide +kernel) rfl
theorem zm_506 : (Jvm.Cond.selects "RecordMatcherModel" ({ cls := "RecordMatcherModel", name := "type", desc := "(IC)Z" } : Jvm.MethodName) ({ cls := "RecordMatcherModel", name := "type", desc := "(IC)Z" } : Jvm.MethodName)) ∈ zW := zw_in 548 (by decide +kernel) rfl
theorem zm_507 : (Jvm.Cond.code ({ cls := "RecordMatcherModel", name := "type", desc := "(IC)Z" } : Jvm.MethodName) prog_10_method_4_code (3 : Nat) (Option.some Jvm.ClassFile.FieldType.boolean)) ∈ zW := zw_in 549 (by decide +kernel) rfl
theorem zm_508 : (Jvm.Cond.methodLink "RecordMatcherModel" (69 : Nat) ({ cls := "RecordMatcherModel", name := "isField", desc := "(I)Z" } : Jvm.MethodName)) ∈ zW := zw_in 550 (by decide +kernel) rfl
theorem zm_509 : (Jvm.Cond.static ({ cls := "RecordMatcherModel", name := "isField", desc := "(I)Z" } : Jvm.MethodName)) ∈ zW := zw_in 551 (by decide +kernel) rfl
theorem zm_510 : (Jvm.Cond.code ({ cls := "RecordMatcherModel", name := "isField", desc := "(I)Z" } : Jvm.MethodName) prog_10_method_3_code (1 : Nat) (Option.some Jvm.ClassFile.FieldType.boolean)) ∈ zW := zw_in 552 (by decide +kernel) rfl
theorem zm_511 : (Jvm.Cond.methodLink "RecordMatcherLaw" (22 : Nat) ({ cls := "RecordMatcherModel", name := "add", desc := "()I" } : Jvm.MethodName)) ∈ zW := zw_in 553 (by decide +kernel) rfl
theorem zm_512 : (Jvm.Cond.instanceMethod ({ cls := "RecordMatcherModel", name := "add", desc := "()I" } : Jvm.MethodName)) ∈ zW := zw_in 554 (by decide +kernel) rfl
theorem zm_513 : (Jvm.Cond.selects "RecordMatcherModel" ({ cls := "RecordMatcherModel", name := "add", desc := "()I" } : Jvm.MethodName) ({ cls := "RecordMatcherModel", name := "add", desc := "()I" } : Jvm.MethodName)) ∈ zW := zw_in 555 (by decide +kernel) rfl
theorem zm_514 : (Jvm.Cond.code ({ cls := "RecordMatcherModel", name := "add", desc := "()I" } : Jvm.MethodName) prog_10_method_5_code (4 : Nat) (Option.some Jvm.ClassFile.FieldType.int)) ∈ zW := zw_in 556 (by decide +kernel) rfl
theorem zm_515 : (Jvm.Cond.methodLink "RecordMatcherLaw" (26 : Nat) ({ cls := "RecordMatcherModel", name := "records", desc := "()I" } : Jvm.MethodName)) ∈ zW := zw_in 557 (by decide +kernel) rfl
theorem zm_516 : (Jvm.Cond.instanceMethod ({ cls := "RecordMatcherModel", name := "records", desc := "()I" } : Jvm.MethodName)) ∈ zW := zw_in 558 (by decide +kernel) rfl
theorem zm_517 : (Jvm.Cond.selects "RecordMatcherModel" ({ cls := "RecordMatcherModel", name := "records", desc := "()I" } : Jvm.MethodName) ({ cls := "RecordMatcherModel", name := "records", desc := "()I" } : Jvm.MethodName)) ∈ zW := zw_in 559 (by decide +kernel) rfl
theorem zm_518 : (Jvm.Cond.code ({ cls := "RecordMatcherModel", name := "records", desc := "()I" } : Jvm.MethodName) prog_10_method_6_code (1 : Nat) (Option.some Jvm.ClassFile.FieldType.int)) ∈ zW := zw_in 560 (by decide +kernel) rfl
theorem zm_519 : (Jvm.Cond.methodLink "RecordMatcherLaw" (31 : Nat) ({ cls := "RecordMatcherModel", name := "words", desc := "(II)I" } : Jvm.MethodName)) ∈ zW := zw_in 561 (by decide +kernel) rfl
theorem zm_520 : (Jvm.Cond.instanceMethod ({ cls := "RecordMatcherModel", name := "words", desc := "(II)I" } : Jvm.MethodName)) ∈ zW := zw_in 562 (by decide +kernel) rfl
theorem zm_521 : (Jvm.Cond.selects "RecordMatcherModel" ({ cls := "RecordMatcherModel", name := "words", desc := "(II)I" } : Jvm.MethodName) ({ cls := "RecordMatcherModel", name := "words", desc := "(II)I" } : Jvm.MethodName)) ∈ zW := zw_in 563 (by decide +kernel) rfl
theorem zm_522 : (Jvm.Cond.code ({ cls := "RecordMatcherModel", name := "words", desc := "(II)I" } : Jvm.MethodName) prog_10_method_14_code (3 : Nat) (Option.some Jvm.ClassFile.FieldType.int)) ∈ zW := zw_in 564 (by decide +kernel) rfl
theorem zm_523 : (Jvm.Cond.methodLink "RecordMatcherModel" (95 : Nat) ({ cls := "RecordMatcherModel", name := "isRecord", desc := "(I)Z" } : Jvm.MethodName)) ∈ zW := zw_in 565 (by decide +kernel) rfl
theorem zm_525 : (Jvm.Cond.instanceMethod ({ cls := "RecordMatcherModel", name := "isRecord", desc := "(I)Z" } : Jvm.MethodName)) ∈ zW := zw_in 567 (by decide +kernel) rfl
theorem zm_526 : (Jvm.Cond.code ({ cls := "RecordMatcherModel", name := "isRecord", desc := "(I)Z" } : Jvm.MethodName) prog_10_method_2_code (2 : Nat) (Option.some Jvm.ClassFile.FieldType.boolean)) ∈ zW := zw_in 568 (by decide +kernel) rfl
theorem zm_527 : (Jvm.Cond.methodLink "RecordMatcherModel" (98 : Nat) ({ cls := "RecordMatcherModel", name := "look", desc := "(III)V" } : Jvm.MethodName)) ∈ zW := zw_in 569 (by decide +kernel) rfl
theorem zm_529 : (Jvm.Cond.instanceMethod ({ cls := "RecordMatcherModel", name := "look", desc := "(III)V" } : Jvm.MethodName)) ∈ zW := zw_in 571 (by decide +kernel) rfl
theorem zm_530 : (Jvm.Cond.code ({ cls := "RecordMatcherModel", name := "look", desc := "(III)V" } : Jvm.MethodName) prog_10_method_8_code (9 : Nat) (Option.none : Option Jvm.ClassFile.FieldType)) ∈ zW := zw_in 572 (by decide +kernel) rfl
theorem zm_531 : (Jvm.Cond.methodLink "RecordMatcherModel" (76 : Nat) ({ cls := "RecordMatcherModel", name := "letter", desc := "(I)I" } : Jvm.MethodName)) ∈ zW := zw_in 573 (by decide +kernel) rfl
theorem zm_532 : (Jvm.Cond.static ({ cls := "RecordMatcherModel", name := "letter", desc := "(I)I" } : Jvm.MethodName)) ∈ zW := zw_in 574 (by decide +kernel) rfl
theorem zm_533 : (Jvm.Cond.code ({ cls := "RecordMatcherModel", name := "letter", desc := "(I)I" } : Jvm.MethodName) prog_10_method_7_code (1 : Nat) (Option.some Jvm.ClassFile.FieldType.int)) ∈ zW := zw_in 575 (by decide +kernel) rfl
theorem zm_534 : (Jvm.Cond.methodLink "RecordMatcherModel" (102 : Nat) ({ cls := "RecordMatcherModel", name := "inSet", desc := "(IIZ)I" } : Jvm.MethodName)) ∈ zW := zw_in 576 (by decide +kernel) rfl
theorem zm_536 : (Jvm.Cond.instanceMethod ({ cls := "RecordMatcherModel", name := "inSet", desc := "(IIZ)I" } : Jvm.MethodName)) ∈ zW := zw_in 578 (by decide +kernel) rfl
theorem zm_537 : (Jvm.Cond.code ({ cls := "RecordMatcherModel", name := "inSet", desc := "(IIZ)I" } : Jvm.MethodName) prog_10_method_13_code (7 : Nat) (Option.some Jvm.ClassFile.FieldType.int)) ∈ zW := zw_in 579 (by decide +kernel) rfl
theorem zm_538 : (Jvm.Cond.methodLink "RecordMatcherModel" (84 : Nat) ({ cls := "RecordMatcherModel", name := "begins", desc := "(II)Z" } : Jvm.MethodName)) ∈ zW := zw_in 580 (by decide +kernel) rfl
theorem zm_540 : (Jvm.Cond.instanceMethod ({ cls := "RecordMatcherModel", name := "begins", desc := "(II)Z" } : Jvm.MethodName)) ∈ zW := zw_in 582 (by decide +kernel) rfl
theorem zm_541 : (Jvm.Cond.code ({ cls := "RecordMatcherModel", name := "begins", desc := "(II)Z" } : Jvm.MethodName) prog_10_method_10_code (3 : Nat) (Option.some Jvm.ClassFile.FieldType.boolean)) ∈ zW := zw_in 583 (by decide +kernel) rfl
theorem zm_542 : (Jvm.Cond.methodLink "RecordMatcherModel" (80 : Nat) ({ cls := "RecordMatcherModel", name := "at", desc := "(II)I" } : Jvm.MethodName)) ∈ zW := zw_in 584 (by decide +kernel) rfl
theorem zm_544 : (Jvm.Cond.instanceMethod ({ cls := "RecordMatcherModel", name := "at", desc := "(II)I" } : Jvm.MethodName)) ∈ zW := zw_in 586 (by decide +kernel) rfl
theorem zm_545 : (Jvm.Cond.code ({ cls := "RecordMatcherModel", name := "at", desc := "(II)I" } : Jvm.MethodName) prog_10_method_9_code (3 : Nat) (Option.some Jvm.ClassFile.FieldType.int)) ∈ zW := zw_in 587 (by decide +kernel) rfl
theorem zm_546 : (Jvm.Cond.methodLink "RecordMatcherModel" (92 : Nat) ({ cls := "RecordMatcherModel", name := "stands", desc := "(IIII)Z" } : Jvm.MethodName)) ∈ zW := zw_in 588 (by decide +kernel) rfl
theorem zm_548 : (Jvm.Cond.instanceMethod ({ cls := "RecordMatcherModel", name := "stands", desc := "(IIII)Z" } : Jvm.MethodName)) ∈ zW := zw_in 590 (by decide +kernel) rfl
theorem zm_549 : (Jvm.Cond.code ({ cls := "RecordMatcherModel", name := "stands", desc := "(IIII)Z" } : Jvm.MethodName) prog_10_method_12_code (7 : Nat) (Option.some Jvm.ClassFile.FieldType.boolean)) ∈ zW := zw_in 591 (by decide +kernel) rfl
theorem zm_550 : (Jvm.Cond.methodLink "RecordMatcherModel" (88 : Nat) ({ cls := "RecordMatcherModel", name := "sameWord", desc := "(IIII)Z" } : Jvm.MethodName)) ∈ zW := zw_in 592 (by decide +kernel) rfl
theorem zm_552 : (Jvm.Cond.instanceMethod ({ cls := "RecordMatcherModel", name := "sameWord", desc := "(IIII)Z" } : Jvm.MethodName)) ∈ zW := zw_in 594 (by decide +kernel) rfl
theorem zm_553 : (Jvm.Cond.code ({ cls := "RecordMatcherModel", name := "sameWord", desc := "(IIII)Z" } : Jvm.MethodName) prog_10_method_11_code (6 : Nat) (Option.some Jvm.ClassFile.FieldType.boolean)) ∈ zW := zw_in 595 (by decide +kernel) rfl
theorem zm_554 : (Jvm.Cond.methodLink "RecordMatcherLaw" (35 : Nat) ({ cls := "RecordMatcherModel", name := "length", desc := "(II)I" } : Jvm.MethodName)) ∈ zW := zw_in 596 (by decide +kernel) rfl
theorem zm_555 : (Jvm.Cond.instanceMethod ({ cls := "RecordMatcherModel", name := "length", desc := "(II)I" } : Jvm.MethodName)) ∈ zW := zw_in 597 (by decide +kernel) rfl
theorem zm_556 : (Jvm.Cond.selects "RecordMatcherModel" ({ cls := "RecordMatcherModel", name := "length", desc := "(II)I" } : Jvm.MethodName) ({ cls := "RecordMatcherModel", name := "length", desc := "(II)I" } : Jvm.MethodName)) ∈ zW := zw_in 598 (by decide +kernel) rfl
theorem zm_557 : (Jvm.Cond.code ({ cls := "RecordMatcherModel", name := "length", desc := "(II)I" } : Jvm.MethodName) prog_10_method_15_code (3 : Nat) (Option.some Jvm.ClassFile.FieldType.int)) ∈ zW := zw_in 599 (by decide +kernel) rfl
theorem zm_558 : (Jvm.Cond.methodLink "RecordMatcherLaw" (40 : Nat) ({ cls := "RecordMatcherModel", name := "unit", desc := "(III)I" } : Jvm.MethodName)) ∈ zW := zw_in 600 (by decide +kernel) rfl
theorem zm_559 : (Jvm.Cond.instanceMethod ({ cls := "RecordMatcherModel", name := "unit", desc := "(III)I" } : Jvm.MethodName)) ∈ zW := zw_in 601 (by decide +kernel) rfl
theorem zm_560 : (Jvm.Cond.selects "RecordMatcherModel" ({ cls := "RecordMatcherModel", name := "unit", desc := "(III)I" } : Jvm.MethodName) ({ cls := "RecordMatcherModel", name := "unit", desc := "(III)I" } : Jvm.MethodName)) ∈ zW := zw_in 602 (by decide +kernel) rfl
theorem zm_561 : (Jvm.Cond.code ({ cls := "RecordMatcherModel", name := "unit", desc := "(III)I" } : Jvm.MethodName) prog_10_method_16_code (5 : Nat) (Option.some Jvm.ClassFile.FieldType.int)) ∈ zW := zw_in 603 (by decide +kernel) rfl
theorem zm_562 : (Jvm.Cond.methodLink "RecordMatcherModel" (106 : Nat) ({ cls := "RecordMatcherModel", name := "length", desc := "(II)I" } : Jvm.MethodName)) ∈ zW := zw_in 604 (by decide +kernel) rfl
theorem zm_563 : (Jvm.Cond.methodLink "RecordMatcherLaw" (45 : Nat) ({ cls := "RecordMatcherModel", name := "jaccard", desc := "(III)Z" } : Jvm.MethodName)) ∈ zW := zw_in 605 (by decide +kernel) rfl
theorem zm_564 : (Jvm.Cond.instanceMethod ({ cls := "RecordMatcherModel", name := "jaccard", desc := "(III)Z" } : Jvm.MethodName)) ∈ zW := zw_in 606 (by decide +kernel) rfl
theorem zm_565 : (Jvm.Cond.selects "RecordMatcherModel" ({ cls := "RecordMatcherModel", name := "jaccard", desc := "(III)Z" } : Jvm.MethodName) ({ cls := "RecordMatcherModel", name := "jaccard", desc := "(III)Z" } : Jvm.MethodName)) ∈ zW := zw_in 607 (by decide +kernel) rfl
theorem zm_566 : (Jvm.Cond.code ({ cls := "RecordMatcherModel", name := "jaccard", desc := "(III)Z" } : Jvm.MethodName) prog_10_method_21_code (4 : Nat) (Option.some Jvm.ClassFile.FieldType.boolean)) ∈ zW := zw_in 608 (by decide +kernel) rfl
theorem zm_567 : (Jvm.Cond.methodLink "RecordMatcherModel" (116 : Nat) ({ cls := "RecordMatcherModel", name := "mark", desc := "(IIII)V" } : Jvm.MethodName)) ∈ zW := zw_in 609 (by decide +kernel) rfl
theorem zm_569 : (Jvm.Cond.instanceMethod ({ cls := "RecordMatcherModel", name := "mark", desc := "(IIII)V" } : Jvm.MethodName)) ∈ zW := zw_in 611 (by decide +kernel) rfl
theorem zm_570 : (Jvm.Cond.code ({ cls := "RecordMatcherModel", name := "mark", desc := "(IIII)V" } : Jvm.MethodName) prog_10_method_19_code (6 : Nat) (Option.none : Option Jvm.ClassFile.FieldType)) ∈ zW := zw_in 612 (by decide +kernel) rfl
theorem zm_571 : (Jvm.Cond.methodLink "RecordMatcherModel" (112 : Nat) ({ cls := "RecordMatcherModel", name := "marks", desc := "()I" } : Jvm.MethodName)) ∈ zW := zw_in 613 (by decide +kernel) rfl
theorem zm_573 : (Jvm.Cond.instanceMethod ({ cls := "RecordMatcherModel", name := "marks", desc := "()I" } : Jvm.MethodName)) ∈ zW := zw_in 615 (by decide +kernel) rfl
theorem zm_574 : (Jvm.Cond.code ({ cls := "RecordMatcherModel", name := "marks", desc := "()I" } : Jvm.MethodName) prog_10_method_18_code (1 : Nat) (Option.some Jvm.ClassFile.FieldType.int)) ∈ zW := zw_in 616 (by decide +kernel) rfl
theorem zm_575 : (Jvm.Cond.methodLink "RecordMatcherModel" (120 : Nat) ({ cls := "RecordMatcherModel", name := "push", desc := "()V" } : Jvm.MethodName)) ∈ zW := zw_in 617 (by decide +kernel) rfl
theorem zm_577 : (Jvm.Cond.instanceMethod ({ cls := "RecordMatcherModel", name := "push", desc := "()V" } : Jvm.MethodName)) ∈ zW := zw_in 619 (by decide +kernel) rfl
theorem zm_578 : (Jvm.Cond.code ({ cls := "RecordMatcherModel", name := "push", desc := "()V" } : Jvm.MethodName) prog_10_method_20_code (2 : Nat) (Option.none : Option Jvm.ClassFile.FieldType)) ∈ zW := zw_in 620 (by decide +kernel) rfl
theorem zm_579 : (Jvm.Cond.methodLink "RecordMatcherLaw" (50 : Nat) ({ cls := "RecordMatcherModel", name := "edit", desc := "(II)Z" } : Jvm.MethodName)) ∈ zW := zw_in 621 (by decide +kernel) rfl
theorem zm_580 : (Jvm.Cond.instanceMethod ({ cls := "RecordMatcherModel", name := "edit", desc := "(II)Z" } : Jvm.MethodName)) ∈ zW := zw_in 622 (by decide +kernel) rfl
theorem zm_581 : (Jvm.Cond.selects "RecordMatcherModel" ({ cls := "RecordMatcherModel", name := "edit", desc := "(II)Z" } : Jvm.MethodName) ({ cls := "RecordMatcherModel", name := "edit", desc := "(II)Z" } : Jvm.MethodName)) ∈ zW := zw_in 623 (by decide +kernel) rfl
theorem zm_582 : (Jvm.Cond.code ({ cls := "RecordMatcherModel", name := "edit", desc := "(II)Z" } : Jvm.MethodName) prog_10_method_22_code (3 : Nat) (Option.some Jvm.ClassFile.FieldType.boolean)) ∈ zW := zw_in 624 (by decide +kernel) rfl
theorem zm_583 : (Jvm.Cond.methodLink "RecordMatcherLaw" (55 : Nat) ({ cls := "RecordMatcherModel", name := "join", desc := "(Z)Z" } : Jvm.MethodName)) ∈ zW := zw_in 625 (by decide +kernel) rfl
theorem zm_584 : (Jvm.Cond.instanceMethod ({ cls := "RecordMatcherModel", name := "join", desc := "(Z)Z" } : Jvm.MethodName)) ∈ zW := zw_in 626 (by decide +kernel) rfl
theorem zm_585 : (Jvm.Cond.selects "RecordMatcherModel" ({ cls := "RecordMatcherModel", name := "join", desc := "(Z)Z" } : Jvm.MethodName) ({ cls := "RecordMatcherModel", name := "join", desc := "(Z)Z" } : Jvm.MethodName)) ∈ zW := zw_in 627 (by decide +kernel) rfl
theorem zm_586 : (Jvm.Cond.code ({ cls := "RecordMatcherModel", name := "join", desc := "(Z)Z" } : Jvm.MethodName) prog_10_method_24_code (3 : Nat) (Option.some Jvm.ClassFile.FieldType.boolean)) ∈ zW := zw_in 628 (by decide +kernel) rfl
theorem zm_587 : (Jvm.Cond.methodLink "RecordMatcherModel" (123 : Nat) ({ cls := "RecordMatcherModel", name := "leaves", desc := "(II)I" } : Jvm.MethodName)) ∈ zW := zw_in 629 (by decide +kernel) rfl
theorem zm_589 : (Jvm.Cond.instanceMethod ({ cls := "RecordMatcherModel", name := "leaves", desc := "(II)I" } : Jvm.MethodName)) ∈ zW := zw_in 631 (by decide +kernel) rfl
theorem zm_590 : (Jvm.Cond.code ({ cls := "RecordMatcherModel", name := "leaves", desc := "(II)I" } : Jvm.MethodName) prog_10_method_23_code (5 : Nat) (Option.some Jvm.ClassFile.FieldType.int)) ∈ zW := zw_in 632 (by decide +kernel) rfl
theorem zm_591 : (Jvm.Cond.methodLink "RecordMatcherLaw" (59 : Nat) ({ cls := "RecordMatcherModel", name := "accept", desc := "()I" } : Jvm.MethodName)) ∈ zW := zw_in 633 (by decide +kernel) rfl
theorem zm_592 : (Jvm.Cond.instanceMethod ({ cls := "RecordMatcherModel", name := "accept", desc := "()I" } : Jvm.MethodName)) ∈ zW := zw_in 634 (by decide +kernel) rfl
theorem zm_593 : (Jvm.Cond.selects "RecordMatcherModel" ({ cls := "RecordMatcherModel", name := "accept", desc := "()I" } : Jvm.MethodName) ({ cls := "RecordMatcherModel", name := "accept", desc := "()I" } : Jvm.MethodName)) ∈ zW := zw_in 635 (by decide +kernel) rfl
theorem zm_594 : (Jvm.Cond.code ({ cls := "RecordMatcherModel", name := "accept", desc := "()I" } : Jvm.MethodName) prog_10_method_26_code (3 : Nat) (Option.some Jvm.ClassFile.FieldType.int)) ∈ zW := zw_in 636 (by decide +kernel) rfl
theorem zm_595 : (Jvm.Cond.methodLink "RecordMatcherModel" (126 : Nat) ({ cls := "RecordMatcherModel", name := "driven", desc := "()Z" } : Jvm.MethodName)) ∈ zW := zw_in 637 (by decide +kernel) rfl
theorem zm_597 : (Jvm.Cond.instanceMethod ({ cls := "RecordMatcherModel", name := "driven", desc := "()Z" } : Jvm.MethodName)) ∈ zW := zw_in 639 (by decide +kernel) rfl
theorem zm_598 : (Jvm.Cond.code ({ cls := "RecordMatcherModel", name := "driven", desc := "()Z" } : Jvm.MethodName) prog_10_method_25_code (3 : Nat) (Option.some Jvm.ClassFile.FieldType.boolean)) ∈ zW := zw_in 640 (by decide +kernel) rfl
theorem zm_599 : (Jvm.Cond.methodLink "RecordMatcherLaw" (64 : Nat) ({ cls := "RecordMatcherModel", name := "discard", desc := "()Z" } : Jvm.MethodName)) ∈ zW := zw_in 641 (by decide +kernel) rfl
theorem zm_600 : (Jvm.Cond.instanceMethod ({ cls := "RecordMatcherModel", name := "discard", desc := "()Z" } : Jvm.MethodName)) ∈ zW := zw_in 642 (by decide +kernel) rfl
theorem zm_601 : (Jvm.Cond.selects "RecordMatcherModel" ({ cls := "RecordMatcherModel", name := "discard", desc := "()Z" } : Jvm.MethodName) ({ cls := "RecordMatcherModel", name := "discard", desc := "()Z" } : Jvm.MethodName)) ∈ zW := zw_in 643 (by decide +kernel) rfl
theorem zm_602 : (Jvm.Cond.code ({ cls := "RecordMatcherModel", name := "discard", desc := "()Z" } : Jvm.MethodName) prog_10_method_27_code (1 : Nat) (Option.some Jvm.ClassFile.FieldType.boolean)) ∈ zW := zw_in 644 (by decide +kernel) rfl
theorem zm_603 : (Jvm.Cond.methodLink "RecordMatcherLaw" (68 : Nat) ({ cls := "RecordMatcherModel", name := "similar", desc := "(II)I" } : Jvm.MethodName)) ∈ zW := zw_in 645 (by decide +kernel) rfl
theorem zm_604 : (Jvm.Cond.instanceMethod ({ cls := "RecordMatcherModel", name := "similar", desc := "(II)I" } : Jvm.MethodName)) ∈ zW := zw_in 646 (by decide +kernel) rfl
theorem zm_605 : (Jvm.Cond.selects "RecordMatcherModel" ({ cls := "RecordMatcherModel", name := "similar", desc := "(II)I" } : Jvm.MethodName) ({ cls := "RecordMatcherModel", name := "similar", desc := "(II)I" } : Jvm.MethodName)) ∈ zW := zw_in 647 (by decide +kernel) rfl
theorem zm_606 : (Jvm.Cond.code ({ cls := "RecordMatcherModel", name := "similar", desc := "(II)I" } : Jvm.MethodName) prog_10_method_30_code (3 : Nat) (Option.some Jvm.ClassFile.FieldType.int)) ∈ zW := zw_in 648 (by decide +kernel) rfl
theorem zm_607 : (Jvm.Cond.methodLink "RecordMatcherModel" (140 : Nat) ({ cls := "RecordMatcherModel", name := "holds", desc := "(II)Z" } : Jvm.MethodName)) ∈ zW := zw_in 649 (by decide +kernel) rfl
theorem zm_609 : (Jvm.Cond.instanceMethod ({ cls := "RecordMatcherModel", name := "holds", desc := "(II)Z" } : Jvm.MethodName)) ∈ zW := zw_in 651 (by decide +kernel) rfl
theorem zm_610 : (Jvm.Cond.code ({ cls := "RecordMatcherModel", name := "holds", desc := "(II)Z" } : Jvm.MethodName) prog_10_method_29_code (5 : Nat) (Option.some Jvm.ClassFile.FieldType.boolean)) ∈ zW := zw_in 652 (by decide +kernel) rfl
theorem zm_611 : (Jvm.Cond.methodLink "RecordMatcherModel" (136 : Nat) ({ cls := "RecordMatcherModel", name := "leafHolds", desc := "(III)Z" } : Jvm.MethodName)) ∈ zW := zw_in 653 (by decide +kernel) rfl
theorem zm_613 : (Jvm.Cond.instanceMethod ({ cls := "RecordMatcherModel", name := "leafHolds", desc := "(III)Z" } : Jvm.MethodName)) ∈ zW := zw_in 655 (by decide +kernel) rfl
theorem zm_614 : (Jvm.Cond.code ({ cls := "RecordMatcherModel", name := "leafHolds", desc := "(III)Z" } : Jvm.MethodName) prog_10_method_28_code (6 : Nat) (Option.some Jvm.ClassFile.FieldType.boolean)) ∈ zW := zw_in 656 (by decide +kernel) rfl
theorem zm_615 : (Jvm.Cond.methodLink "RecordMatcherModel" (133 : Nat) ({ cls := "RecordMatcherModel", name := "distance", desc := "()I" } : Jvm.MethodName)) ∈ zW := zw_in 657 (by decide +kernel) rfl
theorem zm_617 : (Jvm.Cond.instanceMethod ({ cls := "RecordMatcherModel", name := "distance", desc := "()I" } : Jvm.MethodName)) ∈ zW := zw_in 659 (by decide +kernel) rfl
theorem zm_618 : (Jvm.Cond.code ({ cls := "RecordMatcherModel", name := "distance", desc := "()I" } : Jvm.MethodName) prog_10_method_17_code (6 : Nat) (Option.some Jvm.ClassFile.FieldType.int)) ∈ zW := zw_in 660 (by decide +kernel) rfl
theorem zm_619 : (Jvm.Cond.methodLink "RecordMatcherLaw" (73 : Nat) ({ cls := "RecordMatcherModel", name := "start", desc := "(I)I" } : Jvm.MethodName)) ∈ zW := zw_in 661 (by decide +kernel) rfl
theorem zm_620 : (Jvm.Cond.instanceMethod ({ cls := "RecordMatcherModel", name := "start", desc := "(I)I" } : Jvm.MethodName)) ∈ zW := zw_in 662 (by decide +kernel) rfl
theorem zm_621 : (Jvm.Cond.selects "RecordMatcherModel" ({ cls := "RecordMatcherModel", name := "start", desc := "(I)I" } : Jvm.MethodName) ({ cls := "RecordMatcherModel", name := "start", desc := "(I)I" } : Jvm.MethodName)) ∈ zW := zw_in 663 (by decide +kernel) rfl
theorem zm_622 : (Jvm.Cond.code ({ cls := "RecordMatcherModel", name := "start", desc := "(I)I" } : Jvm.MethodName) prog_10_method_34_code (3 : Nat) (Option.some Jvm.ClassFile.FieldType.int)) ∈ zW := zw_in 664 (by decide +kernel) rfl
theorem zm_623 : (Jvm.Cond.methodLink "RecordMatcherLaw" (77 : Nat) ({ cls := "RecordMatcherModel", name := "work", desc := "(I)I" } : Jvm.MethodName)) ∈ zW := zw_in 665 (by decide +kernel) rfl
theorem zm_624 : (Jvm.Cond.instanceMethod ({ cls := "RecordMatcherModel", name := "work", desc := "(I)I" } : Jvm.MethodName)) ∈ zW := zw_in 666 (by decide +kernel) rfl
theorem zm_625 : (Jvm.Cond.selects "RecordMatcherModel" ({ cls := "RecordMatcherModel", name := "work", desc := "(I)I" } : Jvm.MethodName) ({ cls := "RecordMatcherModel", name := "work", desc := "(I)I" } : Jvm.MethodName)) ∈ zW := zw_in 667 (by decide +kernel) rfl
theorem zm_626 : (Jvm.Cond.code ({ cls := "RecordMatcherModel", name := "work", desc := "(I)I" } : Jvm.MethodName) prog_10_method_35_code (6 : Nat) (Option.some Jvm.ClassFile.FieldType.int)) ∈ zW := zw_in 668 (by decide +kernel) rfl
theorem zm_627 : (Jvm.Cond.methodLink "RecordMatcherModel" (146 : Nat) ({ cls := "RecordMatcherModel", name := "isWorker", desc := "(I)Z" } : Jvm.MethodName)) ∈ zW := zw_in 669 (by decide +kernel) rfl
theorem zm_629 : (Jvm.Cond.instanceMethod ({ cls := "RecordMatcherModel", name := "isWorker", desc := "(I)Z" } : Jvm.MethodName)) ∈ zW := zw_in 671 (by decide +kernel) rfl
theorem zm_630 : (Jvm.Cond.code ({ cls := "RecordMatcherModel", name := "isWorker", desc := "(I)Z" } : Jvm.MethodName) prog_10_method_33_code (2 : Nat) (Option.some Jvm.ClassFile.FieldType.boolean)) ∈ zW := zw_in 672 (by decide +kernel) rfl
theorem zm_631 : (Jvm.Cond.methodLink "RecordMatcherModel" (143 : Nat) ({ cls := "RecordMatcherModel", name := "tasksOf", desc := "(I)I" } : Jvm.MethodName)) ∈ zW := zw_in 673 (by decide +kernel) rfl
theorem zm_633 : (Jvm.Cond.instanceMethod ({ cls := "RecordMatcherModel", name := "tasksOf", desc := "(I)I" } : Jvm.MethodName)) ∈ zW := zw_in 675 (by decide +kernel) rfl
theorem zm_634 : (Jvm.Cond.code ({ cls := "RecordMatcherModel", name := "tasksOf", desc := "(I)I" } : Jvm.MethodName) prog_10_method_31_code (4 : Nat) (Option.some Jvm.ClassFile.FieldType.int)) ∈ zW := zw_in 676 (by decide +kernel) rfl
theorem zm_635 : (Jvm.Cond.methodLink "RecordMatcherLaw" (81 : Nat) ({ cls := "RecordMatcherModel", name := "crash", desc := "(I)I" } : Jvm.MethodName)) ∈ zW := zw_in 677 (by decide +kernel) rfl
theorem zm_636 : (Jvm.Cond.instanceMethod ({ cls := "RecordMatcherModel", name := "crash", desc := "(I)I" } : Jvm.MethodName)) ∈ zW := zw_in 678 (by decide +kernel) rfl
theorem zm_637 : (Jvm.Cond.selects "RecordMatcherModel" ({ cls := "RecordMatcherModel", name := "crash", desc := "(I)I" } : Jvm.MethodName) ({ cls := "RecordMatcherModel", name := "crash", desc := "(I)I" } : Jvm.MethodName)) ∈ zW := zw_in 679 (by decide +kernel) rfl
theorem zm_638 : (Jvm.Cond.code ({ cls := "RecordMatcherModel", name := "crash", desc := "(I)I" } : Jvm.MethodName) prog_10_method_36_code (3 : Nat) (Option.some Jvm.ClassFile.FieldType.int)) ∈ zW := zw_in 680 (by decide +kernel) rfl
theorem zm_639 : (Jvm.Cond.methodLink "RecordMatcherModel" (149 : Nat) ({ cls := "RecordMatcherModel", name := "isDone", desc := "()Z" } : Jvm.MethodName)) ∈ zW := zw_in 681 (by decide +kernel) rfl
theorem zm_641 : (Jvm.Cond.instanceMethod ({ cls := "RecordMatcherModel", name := "isDone", desc := "()Z" } : Jvm.MethodName)) ∈ zW := zw_in 683 (by decide +kernel) rfl
theorem zm_642 : (Jvm.Cond.code ({ cls := "RecordMatcherModel", name := "isDone", desc := "()Z" } : Jvm.MethodName) prog_10_method_32_code (3 : Nat) (Option.some Jvm.ClassFile.FieldType.boolean)) ∈ zW := zw_in 684 (by decide +kernel) rfl
theorem zm_643 : (Jvm.Cond.methodLink "RecordMatcherLaw" (85 : Nat) ({ cls := "RecordMatcherModel", name := "pairs", desc := "()I" } : Jvm.MethodName)) ∈ zW := zw_in 685 (by decide +kernel) rfl
theorem zm_644 : (Jvm.Cond.instanceMethod ({ cls := "RecordMatcherModel", name := "pairs", desc := "()I" } : Jvm.MethodName)) ∈ zW := zw_in 686 (by decide +kernel) rfl
theorem zm_645 : (Jvm.Cond.selects "RecordMatcherModel" ({ cls := "RecordMatcherModel", name := "pairs", desc := "()I" } : Jvm.MethodName) ({ cls := "RecordMatcherModel", name := "pairs", desc := "()I" } : Jvm.MethodName)) ∈ zW := zw_in 687 (by decide +kernel) rfl
theorem zm_646 : (Jvm.Cond.code ({ cls := "RecordMatcherModel", name := "pairs", desc := "()I" } : Jvm.MethodName) prog_10_method_38_code (5 : Nat) (Option.some Jvm.ClassFile.FieldType.int)) ∈ zW := zw_in 688 (by decide +kernel) rfl
theorem zm_647 : (Jvm.Cond.methodLink "RecordMatcherModel" (152 : Nat) ({ cls := "RecordMatcherModel", name := "isFound", desc := "(II)Z" } : Jvm.MethodName)) ∈ zW := zw_in 689 (by decide +kernel) rfl
theorem zm_649 : (Jvm.Cond.instanceMethod ({ cls := "RecordMatcherModel", name := "isFound", desc := "(II)Z" } : Jvm.MethodName)) ∈ zW := zw_in 691 (by decide +kernel) rfl
theorem zm_650 : (Jvm.Cond.code ({ cls := "RecordMatcherModel", name := "isFound", desc := "(II)Z" } : Jvm.MethodName) prog_10_method_37_code (5 : Nat) (Option.some Jvm.ClassFile.FieldType.boolean)) ∈ zW := zw_in 692 (by decide +kernel) rfl
theorem zm_651 : (Jvm.Cond.methodLink "RecordMatcherLaw" (89 : Nat) ({ cls := "RecordMatcherModel", name := "found", desc := "(II)I" } : Jvm.MethodName)) ∈ zW := zw_in 693 (by decide +kernel) rfl
theorem zm_652 : (Jvm.Cond.instanceMethod ({ cls := "RecordMatcherModel", name := "found", desc := "(II)I" } : Jvm.MethodName)) ∈ zW := zw_in 694 (by decide +kernel) rfl
theorem zm_653 : (Jvm.Cond.selects "RecordMatcherModel" ({ cls := "RecordMatcherModel", name := "found", desc := "(II)I" } : Jvm.MethodName) ({ cls := "RecordMatcherModel", name := "found", desc := "(II)I" } : Jvm.MethodName)) ∈ zW := zw_in 695 (by decide +kernel) rfl
theorem zm_654 : (Jvm.Cond.code ({ cls := "RecordMatcherModel", name := "found", desc := "(II)I" } : Jvm.MethodName) prog_10_method_39_code (3 : Nat) (Option.some Jvm.ClassFile.FieldType.int)) ∈ zW := zw_in 696 (by decide +kernel) rfl
theorem zm_655 : (Jvm.Cond.methodLink "RecordMatcherLaw" (93 : Nat) ({ cls := "RecordMatcherModel", name := "cluster", desc := "(I)I" } : Jvm.MethodName)) ∈ zW := zw_in 697 (by decide +kernel) rfl
theorem zm_656 : (Jvm.Cond.instanceMethod ({ cls := "RecordMatcherModel", name := "cluster", desc := "(I)I" } : Jvm.MethodName)) ∈ zW := zw_in 698 (by decide +kernel) rfl
theorem zm_657 : (Jvm.Cond.selects "RecordMatcherModel" ({ cls := "RecordMatcherModel", name := "cluster", desc := "(I)I" } : Jvm.MethodName) ({ cls := "RecordMatcherModel", name := "cluster", desc := "(I)I" } : Jvm.MethodName)) ∈ zW := zw_in 699 (by decide +kernel) rfl
theorem zm_658 : (Jvm.Cond.code ({ cls := "RecordMatcherModel", name := "cluster", desc := "(I)I" } : Jvm.MethodName) prog_10_method_41_code (2 : Nat) (Option.some Jvm.ClassFile.FieldType.int)) ∈ zW := zw_in 700 (by decide +kernel) rfl
theorem zm_659 : (Jvm.Cond.methodLink "RecordMatcherModel" (155 : Nat) ({ cls := "RecordMatcherModel", name := "spread", desc := "()V" } : Jvm.MethodName)) ∈ zW := zw_in 701 (by decide +kernel) rfl
theorem zm_661 : (Jvm.Cond.instanceMethod ({ cls := "RecordMatcherModel", name := "spread", desc := "()V" } : Jvm.MethodName)) ∈ zW := zw_in 703 (by decide +kernel) rfl
theorem zm_662 : (Jvm.Cond.code ({ cls := "RecordMatcherModel", name := "spread", desc := "()V" } : Jvm.MethodName) prog_10_method_40_code (5 : Nat) (Option.none : Option Jvm.ClassFile.FieldType)) ∈ zW := zw_in 704 (by decide +kernel) rfl
theorem zm_663 : (Jvm.Cond.methodLink "RecordMatcherLaw" (97 : Nat) ({ cls := "RecordMatcherModel", name := "keep", desc := "(II)Z" } : Jvm.MethodName)) ∈ zW := zw_in 705 (by decide +kernel) rfl
theorem zm_664 : (Jvm.Cond.instanceMethod ({ cls := "RecordMatcherModel", name := "keep", desc := "(II)Z" } : Jvm.MethodName)) ∈ zW := zw_in 706 (by decide +kernel) rfl
theorem zm_665 : (Jvm.Cond.selects "RecordMatcherModel" ({ cls := "RecordMatcherModel", name := "keep", desc := "(II)Z" } : Jvm.MethodName) ({ cls := "RecordMatcherModel", name := "keep", desc := "(II)Z" } : Jvm.MethodName)) ∈ zW := zw_in 707 (by decide +kernel) rfl
theorem zm_666 : (Jvm.Cond.code ({ cls := "RecordMatcherModel", name := "keep", desc := "(II)Z" } : Jvm.MethodName) prog_10_method_42_code (3 : Nat) (Option.some Jvm.ClassFile.FieldType.boolean)) ∈ zW := zw_in 708 (by decide +kernel) rfl
theorem zm_667 : (Jvm.Cond.methodLink "RecordMatcherLaw" (101 : Nat) ({ cls := "RecordMatcherModel", name := "kept", desc := "(II)I" } : Jvm.MethodName)) ∈ zW := zw_in 709 (by decide +kernel) rfl
theorem zm_668 : (Jvm.Cond.instanceMethod ({ cls := "RecordMatcherModel", name := "kept", desc := "(II)I" } : Jvm.MethodName)) ∈ zW := zw_in 710 (by decide +kernel) rfl
theorem zm_669 : (Jvm.Cond.selects "RecordMatcherModel" ({ cls := "RecordMatcherModel", name := "kept", desc := "(II)I" } : Jvm.MethodName) ({ cls := "RecordMatcherModel", name := "kept", desc := "(II)I" } : Jvm.MethodName)) ∈ zW := zw_in 711 (by decide +kernel) rfl
theorem zm_670 : (Jvm.Cond.code ({ cls := "RecordMatcherModel", name := "kept", desc := "(II)I" } : Jvm.MethodName) prog_10_method_47_code (7 : Nat) (Option.some Jvm.ClassFile.FieldType.int)) ∈ zW := zw_in 712 (by decide +kernel) rfl
theorem zm_671 : (Jvm.Cond.methodLink "RecordMatcherModel" (168 : Nat) ({ cls := "RecordMatcherModel", name := "better", desc := "(IIII)Z" } : Jvm.MethodName)) ∈ zW := zw_in 713 (by decide +kernel) rfl
theorem zm_673 : (Jvm.Cond.instanceMethod ({ cls := "RecordMatcherModel", name := "better", desc := "(IIII)Z" } : Jvm.MethodName)) ∈ zW := zw_in 715 (by decide +kernel) rfl
theorem zm_674 : (Jvm.Cond.code ({ cls := "RecordMatcherModel", name := "better", desc := "(IIII)Z" } : Jvm.MethodName) prog_10_method_46_code (8 : Nat) (Option.some Jvm.ClassFile.FieldType.boolean)) ∈ zW := zw_in 716 (by decide +kernel) rfl
theorem zm_675 : (Jvm.Cond.methodLink "RecordMatcherModel" (162 : Nat) ({ cls := "RecordMatcherModel", name := "sizeOf", desc := "(II)I" } : Jvm.MethodName)) ∈ zW := zw_in 717 (by decide +kernel) rfl
theorem zm_677 : (Jvm.Cond.instanceMethod ({ cls := "RecordMatcherModel", name := "sizeOf", desc := "(II)I" } : Jvm.MethodName)) ∈ zW := zw_in 719 (by decide +kernel) rfl
theorem zm_678 : (Jvm.Cond.code ({ cls := "RecordMatcherModel", name := "sizeOf", desc := "(II)I" } : Jvm.MethodName) prog_10_method_43_code (3 : Nat) (Option.some Jvm.ClassFile.FieldType.int)) ∈ zW := zw_in 720 (by decide +kernel) rfl
theorem zm_679 : (Jvm.Cond.methodLink "RecordMatcherModel" (158 : Nat) ({ cls := "RecordMatcherModel", name := "compare", desc := "(III)I" } : Jvm.MethodName)) ∈ zW := zw_in 721 (by decide +kernel) rfl
theorem zm_681 : (Jvm.Cond.instanceMethod ({ cls := "RecordMatcherModel", name := "compare", desc := "(III)I" } : Jvm.MethodName)) ∈ zW := zw_in 723 (by decide +kernel) rfl
theorem zm_682 : (Jvm.Cond.code ({ cls := "RecordMatcherModel", name := "compare", desc := "(III)I" } : Jvm.MethodName) prog_10_method_44_code (7 : Nat) (Option.some Jvm.ClassFile.FieldType.int)) ∈ zW := zw_in 724 (by decide +kernel) rfl
theorem zm_683 : (Jvm.Cond.methodLink "RecordMatcherModel" (165 : Nat) ({ cls := "RecordMatcherModel", name := "same", desc := "(III)I" } : Jvm.MethodName)) ∈ zW := zw_in 725 (by decide +kernel) rfl
theorem zm_685 : (Jvm.Cond.instanceMethod ({ cls := "RecordMatcherModel", name := "same", desc := "(III)I" } : Jvm.MethodName)) ∈ zW := zw_in 727 (by decide +kernel) rfl
theorem zm_686 : (Jvm.Cond.code ({ cls := "RecordMatcherModel", name := "same", desc := "(III)I" } : Jvm.MethodName) prog_10_method_45_code (7 : Nat) (Option.some Jvm.ClassFile.FieldType.int)) ∈ zW := zw_in 728 (by decide +kernel) rfl
theorem zp_RM_textOf : (Jvm.Cond.selects "RecordMatcher" ⟨"RecordMatcher", "textOf", "(II)LRecordMatcher$Text;"⟩ ⟨"RecordMatcher", "textOf", "(II)LRecordMatcher$Text;"⟩) ∈ zW := zw_in 0 (by decide +kernel) rfl
theorem zp_Te_put : (Jvm.Cond.selects "RecordMatcher$Text" ⟨"RecordMatcher$Text", "put", "(C)V"⟩ ⟨"RecordMatcher$Text", "put", "(C)V"⟩) ∈ zW := zw_in 1 (by decide +kernel) rfl
theorem zp_RM_isRecord : (Jvm.Cond.selects "RecordMatcher" ⟨"RecordMatcher", "isRecord", "(I)Z"⟩ ⟨"RecordMatcher", "isRecord", "(I)Z"⟩) ∈ zW := zw_in 2 (by decide +kernel) rfl
theorem zp_Te_beginsWord : (Jvm.Cond.selects "RecordMatcher$Text" ⟨"RecordMatcher$Text", "beginsWord", "(I)Z"⟩ ⟨"RecordMatcher$Text", "beginsWord", "(I)Z"⟩) ∈ zW := zw_in 3 (by decide +kernel) rfl
theorem zp_Te_hasWordBefore : (Jvm.Cond.selects "RecordMatcher$Text" ⟨"RecordMatcher$Text", "hasWordBefore", "(ILRecordMatcher$Text;I)Z"⟩ ⟨"RecordMatcher$Text", "hasWordBefore", "(ILRecordMatcher$Text;I)Z"⟩) ∈ zW := zw_in 4 (by decide +kernel) rfl
theorem zp_Te_isSameWord : (Jvm.Cond.selects "RecordMatcher$Text" ⟨"RecordMatcher$Text", "isSameWord", "(ILRecordMatcher$Text;I)Z"⟩ ⟨"RecordMatcher$Text", "isSameWord", "(ILRecordMatcher$Text;I)Z"⟩) ∈ zW := zw_in 5 (by decide +kernel) rfl
theorem zp_Te_endsWord : (Jvm.Cond.selects "RecordMatcher$Text" ⟨"RecordMatcher$Text", "endsWord", "(I)Z"⟩ ⟨"RecordMatcher$Text", "endsWord", "(I)Z"⟩) ∈ zW := zw_in 6 (by decide +kernel) rfl
theorem zp_RM_push : (Jvm.Cond.selects "RecordMatcher" ⟨"RecordMatcher", "push", "(LRecordMatcher$Expression;)V"⟩ ⟨"RecordMatcher", "push", "(LRecordMatcher$Expression;)V"⟩) ∈ zW := zw_in 7 (by decide +kernel) rfl
theorem zp_RM_fromTop : (Jvm.Cond.selects "RecordMatcher" ⟨"RecordMatcher", "fromTop", "(I)LRecordMatcher$Expression;"⟩ ⟨"RecordMatcher", "fromTop", "(I)LRecordMatcher$Expression;"⟩) ∈ zW := zw_in 8 (by decide +kernel) rfl
theorem zp_RM_areTwoRecords : (Jvm.Cond.selects "RecordMatcher" ⟨"RecordMatcher", "areTwoRecords", "(II)Z"⟩ ⟨"RecordMatcher", "areTwoRecords", "(II)Z"⟩) ∈ zW := zw_in 9 (by decide +kernel) rfl
theorem zp_Ed_countSteps : (Jvm.Cond.selects "RecordMatcher$Edit" ⟨"RecordMatcher$Edit", "countSteps", "(LRecordMatcher$Text;LRecordMatcher$Text;)I"⟩ ⟨"RecordMatcher$Edit", "countSteps", "(LRecordMatcher$Text;LRecordMatcher$Text;)I"⟩) ∈ zW := zw_in 10 (by decide +kernel) rfl
theorem zp_Ed_goThrough : (Jvm.Cond.selects "RecordMatcher$Edit" ⟨"RecordMatcher$Edit", "goThrough", "(CLRecordMatcher$Text;)V"⟩ ⟨"RecordMatcher$Edit", "goThrough", "(CLRecordMatcher$Text;)V"⟩) ∈ zW := zw_in 11 (by decide +kernel) rfl
theorem zp_Ru_taskOf : (Jvm.Cond.selects "RecordMatcher$Run" ⟨"RecordMatcher$Run", "taskOf", "(II)I"⟩ ⟨"RecordMatcher$Run", "taskOf", "(II)I"⟩) ∈ zW := zw_in 12 (by decide +kernel) rfl
theorem zp_Ru_forgetPairsOf : (Jvm.Cond.selects "RecordMatcher$Run" ⟨"RecordMatcher$Run", "forgetPairsOf", "(I)V"⟩ ⟨"RecordMatcher$Run", "forgetPairsOf", "(I)V"⟩) ∈ zW := zw_in 13 (by decide +kernel) rfl
theorem zp_Ru_unite : (Jvm.Cond.selects "RecordMatcher$Run" ⟨"RecordMatcher$Run", "unite", "(II)V"⟩ ⟨"RecordMatcher$Run", "unite", "(II)V"⟩) ∈ zW := zw_in 14 (by decide +kernel) rfl
theorem zp_RM_bestOfCluster : (Jvm.Cond.selects "RecordMatcher" ⟨"RecordMatcher", "bestOfCluster", "(II)I"⟩ ⟨"RecordMatcher", "bestOfCluster", "(II)I"⟩) ∈ zW := zw_in 15 (by decide +kernel) rfl
theorem zp_RM_isBetter : (Jvm.Cond.selects "RecordMatcher" ⟨"RecordMatcher", "isBetter", "(III)Z"⟩ ⟨"RecordMatcher", "isBetter", "(III)Z"⟩) ∈ zW := zw_in 16 (by decide +kernel) rfl
theorem zp_RM_countHavingTextOf : (Jvm.Cond.selects "RecordMatcher" ⟨"RecordMatcher", "countHavingTextOf", "(II)I"⟩ ⟨"RecordMatcher", "countHavingTextOf", "(II)I"⟩) ∈ zW := zw_in 17 (by decide +kernel) rfl
theorem zp_Mo_isRecord : (Jvm.Cond.selects "RecordMatcherModel" ⟨"RecordMatcherModel", "isRecord", "(I)Z"⟩ ⟨"RecordMatcherModel", "isRecord", "(I)Z"⟩) ∈ zW := zw_in 18 (by decide +kernel) rfl
theorem zp_Mo_look : (Jvm.Cond.selects "RecordMatcherModel" ⟨"RecordMatcherModel", "look", "(III)V"⟩ ⟨"RecordMatcherModel", "look", "(III)V"⟩) ∈ zW := zw_in 19 (by decide +kernel) rfl
theorem zp_Mo_inSet : (Jvm.Cond.selects "RecordMatcherModel" ⟨"RecordMatcherModel", "inSet", "(IIZ)I"⟩ ⟨"RecordMatcherModel", "inSet", "(IIZ)I"⟩) ∈ zW := zw_in 20 (by decide +kernel) rfl
theorem zp_Mo_begins : (Jvm.Cond.selects "RecordMatcherModel" ⟨"RecordMatcherModel", "begins", "(II)Z"⟩ ⟨"RecordMatcherModel", "begins", "(II)Z"⟩) ∈ zW := zw_in 21 (by decide +kernel) rfl
theorem zp_Mo_at : (Jvm.Cond.selects "RecordMatcherModel" ⟨"RecordMatcherModel", "at", "(II)I"⟩ ⟨"RecordMatcherModel", "at", "(II)I"⟩) ∈ zW := zw_in 22 (by decide +kernel) rfl
theorem zp_Mo_stands : (Jvm.Cond.selects "RecordMatcherModel" ⟨"RecordMatcherModel", "stands", "(IIII)Z"⟩ ⟨"RecordMatcherModel", "stands", "(IIII)Z"⟩) ∈ zW := zw_in 23 (by decide +kernel) rfl
theorem zp_Mo_sameWord : (Jvm.Cond.selects "RecordMatcherModel" ⟨"RecordMatcherModel", "sameWord", "(IIII)Z"⟩ ⟨"RecordMatcherModel", "sameWord", "(IIII)Z"⟩) ∈ zW := zw_in 24 (by decide +kernel) rfl
theorem zp_Mo_mark : (Jvm.Cond.selects "RecordMatcherModel" ⟨"RecordMatcherModel", "mark", "(IIII)V"⟩ ⟨"RecordMatcherModel", "mark", "(IIII)V"⟩) ∈ zW := zw_in 25 (by decide +kernel) rfl
theorem zp_Mo_marks : (Jvm.Cond.selects "RecordMatcherModel" ⟨"RecordMatcherModel", "marks", "()I"⟩ ⟨"RecordMatcherModel", "marks", "()I"⟩) ∈ zW := zw_in 26 (by decide +kernel) rfl
theorem zp_Mo_push : (Jvm.Cond.selects "RecordMatcherModel" ⟨"RecordMatcherModel", "push", "()V"⟩ ⟨"RecordMatcherModel", "push", "()V"⟩) ∈ zW := zw_in 27 (by decide +kernel) rfl
theorem zp_Mo_leaves : (Jvm.Cond.selects "RecordMatcherModel" ⟨"RecordMatcherModel", "leaves", "(II)I"⟩ ⟨"RecordMatcherModel", "leaves", "(II)I"⟩) ∈ zW := zw_in 28 (by decide +kernel) rfl
theorem zp_Mo_driven : (Jvm.Cond.selects "RecordMatcherModel" ⟨"RecordMatcherModel", "driven", "()Z"⟩ ⟨"RecordMatcherModel", "driven", "()Z"⟩) ∈ zW := zw_in 29 (by decide +kernel) rfl
theorem zp_Mo_holds : (Jvm.Cond.selects "RecordMatcherModel" ⟨"RecordMatcherModel", "holds", "(II)Z"⟩ ⟨"RecordMatcherModel", "holds", "(II)Z"⟩) ∈ zW := zw_in 30 (by decide +kernel) rfl
theorem zp_Mo_leafHolds : (Jvm.Cond.selects "RecordMatcherModel" ⟨"RecordMatcherModel", "leafHolds", "(III)Z"⟩ ⟨"RecordMatcherModel", "leafHolds", "(III)Z"⟩) ∈ zW := zw_in 31 (by decide +kernel) rfl
theorem zp_Mo_distance : (Jvm.Cond.selects "RecordMatcherModel" ⟨"RecordMatcherModel", "distance", "()I"⟩ ⟨"RecordMatcherModel", "distance", "()I"⟩) ∈ zW := zw_in 32 (by decide +kernel) rfl
theorem zp_Mo_isWorker : (Jvm.Cond.selects "RecordMatcherModel" ⟨"RecordMatcherModel", "isWorker", "(I)Z"⟩ ⟨"RecordMatcherModel", "isWorker", "(I)Z"⟩) ∈ zW := zw_in 33 (by decide +kernel) rfl
theorem zp_Mo_tasksOf : (Jvm.Cond.selects "RecordMatcherModel" ⟨"RecordMatcherModel", "tasksOf", "(I)I"⟩ ⟨"RecordMatcherModel", "tasksOf", "(I)I"⟩) ∈ zW := zw_in 34 (by decide +kernel) rfl
theorem zp_Mo_isDone : (Jvm.Cond.selects "RecordMatcherModel" ⟨"RecordMatcherModel", "isDone", "()Z"⟩ ⟨"RecordMatcherModel", "isDone", "()Z"⟩) ∈ zW := zw_in 35 (by decide +kernel) rfl
theorem zp_Mo_isFound : (Jvm.Cond.selects "RecordMatcherModel" ⟨"RecordMatcherModel", "isFound", "(II)Z"⟩ ⟨"RecordMatcherModel", "isFound", "(II)Z"⟩) ∈ zW := zw_in 36 (by decide +kernel) rfl
theorem zp_Mo_spread : (Jvm.Cond.selects "RecordMatcherModel" ⟨"RecordMatcherModel", "spread", "()V"⟩ ⟨"RecordMatcherModel", "spread", "()V"⟩) ∈ zW := zw_in 37 (by decide +kernel) rfl
theorem zp_Mo_better : (Jvm.Cond.selects "RecordMatcherModel" ⟨"RecordMatcherModel", "better", "(IIII)Z"⟩ ⟨"RecordMatcherModel", "better", "(IIII)Z"⟩) ∈ zW := zw_in 38 (by decide +kernel) rfl
theorem zp_Mo_sizeOf : (Jvm.Cond.selects "RecordMatcherModel" ⟨"RecordMatcherModel", "sizeOf", "(II)I"⟩ ⟨"RecordMatcherModel", "sizeOf", "(II)I"⟩) ∈ zW := zw_in 39 (by decide +kernel) rfl
theorem zp_Mo_compare : (Jvm.Cond.selects "RecordMatcherModel" ⟨"RecordMatcherModel", "compare", "(III)I"⟩ ⟨"RecordMatcherModel", "compare", "(III)I"⟩) ∈ zW := zw_in 40 (by decide +kernel) rfl
theorem zp_Mo_same : (Jvm.Cond.selects "RecordMatcherModel" ⟨"RecordMatcherModel", "same", "(III)I"⟩ ⟨"RecordMatcherModel", "same", "(III)I"⟩) ∈ zW := zw_in 41 (by decide +kernel) rfl
/-- words that are carried by hand -/
def zN : List Cond := [(Jvm.Cond.methodLinkNest "RecordMatcher" (23 : Nat) ({ cls := "RecordMatcher$Run", name := "<init>", desc := "()V" } : Jvm.MethodName) "RecordMatcher"), (Jvm.Cond.fieldLinkNest "RecordMatcher" (161 : Nat) "RecordMatcher$Run" "leaders" "[I" "RecordMatcher"), (Jvm.Cond.fieldLinkNest "RecordMatcher" (127 : Nat) "RecordMatcher$Run" "tasks" "I" "RecordMatcher"), (Jvm.Cond.methodLinkNest "RecordMatcher" (32 : Nat) ({ cls := "RecordMatcher$Entry", name := "<init>", desc := "()V" } : Jvm.MethodName) "RecordMatcher"), (Jvm.Cond.methodLinkNest "RecordMatcher$Entry" (9 : Nat) ({ cls := "RecordMatcher$Text", name := "<init>", desc := "()V" } : Jvm.MethodName) "RecordMatcher"), (Jvm.Cond.fieldLinkNest "RecordMatcher$Edit" (37 : Nat) "RecordMatcher$Text" "codes" "[C" "RecordMatcher"), (Jvm.Cond.fieldLinkNest "RecordMatcher" (64 : Nat) "RecordMatcher$Text" "codes" "[C" "RecordMatcher"), (Jvm.Cond.fieldLinkNest "RecordMatcher$Edit" (32 : Nat) "RecordMatcher$Text" "size" "I" "RecordMatcher"), (Jvm.Cond.fieldLinkNest "RecordMatcher" (61 : Nat) "RecordMatcher$Text" "size" "I" "RecordMatcher"), (Jvm.Cond.declares ({ cls := "RecordMatcher$Expression", name := "holdsOf", desc := "(LRecordMatcher$Entry;LRecordMatcher$Entry;)Z" } : Jvm.MethodName)), (Jvm.Cond.castable "RecordMatcher$Edit" "RecordMatcher$Expression"), (Jvm.Cond.castable "RecordMatcher$Jaccard" "RecordMatcher$Expression"), (Jvm.Cond.castable "RecordMatcher$Joined" "RecordMatcher$Expression")]
theorem zn_in : ∀ w ∈ zN, w ∈ lw_tbl := by decide +kernel
def zn_k : Cond → Bool
  | .fieldLinkNest _ _ _ _ _ _ => true
  | .methodLinkNest _ _ _ _ => true
  | .castable _ _ => true
  | .declares _ => true
  | _ => false
theorem zn_ok : ∀ w ∈ zN, zn_k w = true := by decide +kernel
theorem zn_25 : (Jvm.Cond.methodLinkNest "RecordMatcher" (23 : Nat) ({ cls := "RecordMatcher$Run", name := "<init>", desc := "()V" } : Jvm.MethodName) "RecordMatcher") ∈ zN := List.mem_of_getElem? (i := 0) rfl
theorem zn_32 : (Jvm.Cond.fieldLinkNest "RecordMatcher" (161 : Nat) "RecordMatcher$Run" "leaders" "[I" "RecordMatcher") ∈ zN := List.mem_of_getElem? (i := 1) rfl
theorem zn_34 : (Jvm.Cond.fieldLinkNest "RecordMatcher" (127 : Nat) "RecordMatcher$Run" "tasks" "I" "RecordMatcher") ∈ zN := List.mem_of_getElem? (i := 2) rfl
theorem zn_50 : (Jvm.Cond.methodLinkNest "RecordMatcher" (32 : Nat) ({ cls := "RecordMatcher$Entry", name := "<init>", desc := "()V" } : Jvm.MethodName) "RecordMatcher") ∈ zN := List.mem_of_getElem? (i := 3) rfl
theorem zn_56 : (Jvm.Cond.methodLinkNest "RecordMatcher$Entry" (9 : Nat) ({ cls := "RecordMatcher$Text", name := "<init>", desc := "()V" } : Jvm.MethodName) "RecordMatcher") ∈ zN := List.mem_of_getElem? (i := 4) rfl
theorem zn_61 : (Jvm.Cond.fieldLinkNest "RecordMatcher$Edit" (37 : Nat) "RecordMatcher$Text" "codes" "[C" "RecordMatcher") ∈ zN := List.mem_of_getElem? (i := 5) rfl
theorem zn_62 : (Jvm.Cond.fieldLinkNest "RecordMatcher" (64 : Nat) "RecordMatcher$Text" "codes" "[C" "RecordMatcher") ∈ zN := List.mem_of_getElem? (i := 6) rfl
theorem zn_64 : (Jvm.Cond.fieldLinkNest "RecordMatcher$Edit" (32 : Nat) "RecordMatcher$Text" "size" "I" "RecordMatcher") ∈ zN := List.mem_of_getElem? (i := 7) rfl
theorem zn_65 : (Jvm.Cond.fieldLinkNest "RecordMatcher" (61 : Nat) "RecordMatcher$Text" "size" "I" "RecordMatcher") ∈ zN := List.mem_of_getElem? (i := 8) rfl
theorem zn_286 : (Jvm.Cond.declares ({ cls := "RecordMatcher$Expression", name := "holdsOf", desc := "(LRecordMatcher$Entry;LRecordMatcher$Entry;)Z" } : Jvm.MethodName)) ∈ zN := List.mem_of_getElem? (i := 9) rfl
theorem zn_687 : (Jvm.Cond.castable "RecordMatcher$Edit" "RecordMatcher$Expression") ∈ zN := List.mem_of_getElem? (i := 10) rfl
theorem zn_688 : (Jvm.Cond.castable "RecordMatcher$Jaccard" "RecordMatcher$Expression") ∈ zN := List.mem_of_getElem? (i := 11) rfl
theorem zn_689 : (Jvm.Cond.castable "RecordMatcher$Joined" "RecordMatcher$Expression") ∈ zN := List.mem_of_getElem? (i := 12) rfl

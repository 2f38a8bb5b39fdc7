section MMF
variable {s0 : State} {args0 : Array Value} {D : va_G} {al : Nat → Nat}
set_option maxRecDepth 100000 in
theorem wd_86 (hts : ∀ w ∈ lw_tbl, w.before args0 s0 = true) : mw_G s0 (Jvm.Cond.code ({ cls := "InodeDisk", name := "<init>", desc := "()V" } : Jvm.MethodName) prog_1_method_1_code (1 : Nat) (Option.none : Option Jvm.ClassFile.FieldType)) := mw_of (Ts := tables_1_1) (sg_1 hts) 22 (by rfl) rfl
set_option maxRecDepth 100000 in
theorem wd_89 (hts : ∀ w ∈ lw_tbl, w.before args0 s0 = true) : mw_G s0 (Jvm.Cond.code ({ cls := "java/lang/Object", name := "<init>", desc := "()V" } : Jvm.MethodName) object_method_1_code (1 : Nat) (Option.none : Option Jvm.ClassFile.FieldType)) := mw_of (Ts := tables_1_1) (sg_1 hts) 25 (by rfl) rfl
set_option maxRecDepth 100000 in
theorem wd_94 (hts : ∀ w ∈ lw_tbl, w.before args0 s0 = true) : mw_G s0 (Jvm.Cond.code ({ cls := "InodeDisk$Bytes", name := "<init>", desc := "()V" } : Jvm.MethodName) prog_2_method_1_code (1 : Nat) (Option.none : Option Jvm.ClassFile.FieldType)) := mw_of (Ts := tables_1_1) (sg_1 hts) 30 (by rfl) rfl
set_option maxRecDepth 100000 in
theorem wd_105 (hts : ∀ w ∈ lw_tbl, w.before args0 s0 = true) : mw_G s0 (Jvm.Cond.code ({ cls := "InodeDisk$TakenMap", name := "<init>", desc := "(LInodeDisk$Bytes;III)V" } : Jvm.MethodName) prog_8_method_1_code (5 : Nat) (Option.none : Option Jvm.ClassFile.FieldType)) := mw_of (Ts := tables_1_1) (sg_1 hts) 41 (by rfl) rfl
set_option maxRecDepth 100000 in
theorem wd_124 (hts : ∀ w ∈ lw_tbl, w.before args0 s0 = true) : mw_G s0 (Jvm.Cond.code ({ cls := "InodeDisk$Inodes", name := "<init>", desc := "(LInodeDisk$Bytes;LInodeDisk$TakenMap;LInodeDisk$TakenMap;)V" } : Jvm.MethodName) prog_4_method_1_code (4 : Nat) (Option.none : Option Jvm.ClassFile.FieldType)) := mw_of (Ts := tables_1_1) (sg_1 hts) 60 (by rfl) rfl
set_option maxRecDepth 100000 in
theorem wd_140 (hts : ∀ w ∈ lw_tbl, w.before args0 s0 = true) : mw_G s0 (Jvm.Cond.code ({ cls := "InodeDisk$Directories", name := "<init>", desc := "(LInodeDisk$Bytes;LInodeDisk$Inodes;)V" } : Jvm.MethodName) prog_3_method_1_code (3 : Nat) (Option.none : Option Jvm.ClassFile.FieldType)) := mw_of (Ts := tables_1_1) (sg_1 hts) 76 (by rfl) rfl
set_option maxRecDepth 100000 in
theorem wd_153 (hts : ∀ w ∈ lw_tbl, w.before args0 s0 = true) : mw_G s0 (Jvm.Cond.code ({ cls := "InodeDisk$Survey", name := "<init>", desc := "(LInodeDisk$Inodes;LInodeDisk$Directories;)V" } : Jvm.MethodName) prog_7_method_1_code (3 : Nat) (Option.none : Option Jvm.ClassFile.FieldType)) := mw_of (Ts := tables_1_1) (sg_1 hts) 89 (by rfl) rfl
set_option maxRecDepth 100000 in
theorem wd_183 (hts : ∀ w ∈ lw_tbl, w.before args0 s0 = true) : mw_G s0 (Jvm.Cond.code ({ cls := "InodeDisk$Path", name := "<init>", desc := "()V" } : Jvm.MethodName) prog_5_method_1_code (1 : Nat) (Option.none : Option Jvm.ClassFile.FieldType)) := mw_of (Ts := tables_1_1) (sg_1 hts) 119 (by rfl) rfl
set_option maxRecDepth 100000 in
theorem wd_197 (hts : ∀ w ∈ lw_tbl, w.before args0 s0 = true) : mw_G s0 (Jvm.Cond.code ({ cls := "InodeDisk$Place", name := "<init>", desc := "()V" } : Jvm.MethodName) prog_6_method_1_code (1 : Nat) (Option.none : Option Jvm.ClassFile.FieldType)) := mw_of (Ts := tables_1_1) (sg_1 hts) 133 (by rfl) rfl
set_option maxRecDepth 100000 in
theorem wd_223 (hts : ∀ w ∈ lw_tbl, w.before args0 s0 = true) : mw_G s0 (Jvm.Cond.code ({ cls := "InodeDisk", name := "format", desc := "()V" } : Jvm.MethodName) prog_1_method_2_code (2 : Nat) (Option.none : Option Jvm.ClassFile.FieldType)) := mw_of (Ts := tables_1_1) (sg_1 hts) 159 (by rfl) rfl
set_option maxRecDepth 100000 in
theorem wd_227 (hts : ∀ w ∈ lw_tbl, w.before args0 s0 = true) : mw_G s0 (Jvm.Cond.code ({ cls := "InodeDisk$Bytes", name := "clear", desc := "(II)V" } : Jvm.MethodName) prog_2_method_4_code (4 : Nat) (Option.none : Option Jvm.ClassFile.FieldType)) := mw_of (Ts := tables_1_1) (sg_1 hts) 163 (by rfl) rfl
set_option maxRecDepth 100000 in
theorem wd_231 (hts : ∀ w ∈ lw_tbl, w.before args0 s0 = true) : mw_G s0 (Jvm.Cond.code ({ cls := "InodeDisk$Bytes", name := "put", desc := "(II)V" } : Jvm.MethodName) prog_2_method_3_code (3 : Nat) (Option.none : Option Jvm.ClassFile.FieldType)) := mw_of (Ts := tables_1_1) (sg_1 hts) 167 (by rfl) rfl
set_option maxRecDepth 100000 in
theorem wd_236 (hts : ∀ w ∈ lw_tbl, w.before args0 s0 = true) : mw_G s0 (Jvm.Cond.code ({ cls := "InodeDisk$TakenMap", name := "start", desc := "()V" } : Jvm.MethodName) prog_8_method_7_code (2 : Nat) (Option.none : Option Jvm.ClassFile.FieldType)) := mw_of (Ts := tables_1_1) (sg_1 hts) 172 (by rfl) rfl
set_option maxRecDepth 100000 in
theorem wd_240 (hts : ∀ w ∈ lw_tbl, w.before args0 s0 = true) : mw_G s0 (Jvm.Cond.code ({ cls := "InodeDisk$Bytes", name := "turnBit", desc := "(II)V" } : Jvm.MethodName) prog_2_method_6_code (4 : Nat) (Option.none : Option Jvm.ClassFile.FieldType)) := mw_of (Ts := tables_1_1) (sg_1 hts) 176 (by rfl) rfl
set_option maxRecDepth 100000 in
theorem wd_244 (hts : ∀ w ∈ lw_tbl, w.before args0 s0 = true) : mw_G s0 (Jvm.Cond.code ({ cls := "InodeDisk$Inodes", name := "take", desc := "(I)I" } : Jvm.MethodName) prog_4_method_18_code (3 : Nat) (Option.some Jvm.ClassFile.FieldType.int)) := mw_of (Ts := tables_1_1) (sg_1 hts) 180 (by rfl) rfl
set_option maxRecDepth 100000 in
theorem wd_248 (hts : ∀ w ∈ lw_tbl, w.before args0 s0 = true) : mw_G s0 (Jvm.Cond.code ({ cls := "InodeDisk$TakenMap", name := "takeLowest", desc := "()I" } : Jvm.MethodName) prog_8_method_9_code (2 : Nat) (Option.some Jvm.ClassFile.FieldType.int)) := mw_of (Ts := tables_1_1) (sg_1 hts) 184 (by rfl) rfl
set_option maxRecDepth 100000 in
theorem wd_252 (hts : ∀ w ∈ lw_tbl, w.before args0 s0 = true) : mw_G s0 (Jvm.Cond.code ({ cls := "InodeDisk$Bytes", name := "hasBit", desc := "(II)Z" } : Jvm.MethodName) prog_2_method_5_code (4 : Nat) (Option.some Jvm.ClassFile.FieldType.boolean)) := mw_of (Ts := tables_1_1) (sg_1 hts) 188 (by rfl) rfl
set_option maxRecDepth 100000 in
theorem wd_255 (hts : ∀ w ∈ lw_tbl, w.before args0 s0 = true) : mw_G s0 (Jvm.Cond.code ({ cls := "InodeDisk$Inodes", name := "start", desc := "(I)I" } : Jvm.MethodName) prog_4_method_2_code (1 : Nat) (Option.some Jvm.ClassFile.FieldType.int)) := mw_of (Ts := tables_1_1) (sg_1 hts) 191 (by rfl) rfl
set_option maxRecDepth 100000 in
theorem wd_260 (hts : ∀ w ∈ lw_tbl, w.before args0 s0 = true) : mw_G s0 (Jvm.Cond.code ({ cls := "InodeDisk$Directories", name := "start", desc := "(II)V" } : Jvm.MethodName) prog_3_method_12_code (3 : Nat) (Option.none : Option Jvm.ClassFile.FieldType)) := mw_of (Ts := tables_1_1) (sg_1 hts) 196 (by rfl) rfl
set_option maxRecDepth 100000 in
theorem wd_264 (hts : ∀ w ∈ lw_tbl, w.before args0 s0 = true) : mw_G s0 (Jvm.Cond.code ({ cls := "InodeDisk$Inodes", name := "fillHole", desc := "(II)V" } : Jvm.MethodName) prog_4_method_20_code (4 : Nat) (Option.none : Option Jvm.ClassFile.FieldType)) := mw_of (Ts := tables_1_1) (sg_1 hts) 200 (by rfl) rfl
set_option maxRecDepth 100000 in
theorem wd_268 (hts : ∀ w ∈ lw_tbl, w.before args0 s0 = true) : mw_G s0 (Jvm.Cond.code ({ cls := "InodeDisk$Inodes", name := "indirect", desc := "(I)I" } : Jvm.MethodName) prog_4_method_9_code (2 : Nat) (Option.some Jvm.ClassFile.FieldType.int)) := mw_of (Ts := tables_1_1) (sg_1 hts) 204 (by rfl) rfl
set_option maxRecDepth 100000 in
theorem wd_272 (hts : ∀ w ∈ lw_tbl, w.before args0 s0 = true) : mw_G s0 (Jvm.Cond.code ({ cls := "InodeDisk$Bytes", name := "get", desc := "(I)I" } : Jvm.MethodName) prog_2_method_2_code (2 : Nat) (Option.some Jvm.ClassFile.FieldType.int)) := mw_of (Ts := tables_1_1) (sg_1 hts) 208 (by rfl) rfl
set_option maxRecDepth 100000 in
theorem wd_276 (hts : ∀ w ∈ lw_tbl, w.before args0 s0 = true) : mw_G s0 (Jvm.Cond.code ({ cls := "InodeDisk$Inodes", name := "takeBlock", desc := "()I" } : Jvm.MethodName) prog_4_method_19_code (2 : Nat) (Option.some Jvm.ClassFile.FieldType.int)) := mw_of (Ts := tables_1_1) (sg_1 hts) 212 (by rfl) rfl
set_option maxRecDepth 100000 in
theorem wd_281 (hts : ∀ w ∈ lw_tbl, w.before args0 s0 = true) : mw_G s0 (Jvm.Cond.code ({ cls := "InodeDisk$Inodes", name := "entryOf", desc := "(II)I" } : Jvm.MethodName) prog_4_method_10_code (4 : Nat) (Option.some Jvm.ClassFile.FieldType.int)) := mw_of (Ts := tables_1_1) (sg_1 hts) 217 (by rfl) rfl
set_option maxRecDepth 100000 in
theorem wd_285 (hts : ∀ w ∈ lw_tbl, w.before args0 s0 = true) : mw_G s0 (Jvm.Cond.code ({ cls := "InodeDisk$Inodes", name := "setSize", desc := "(II)V" } : Jvm.MethodName) prog_4_method_8_code (4 : Nat) (Option.none : Option Jvm.ClassFile.FieldType)) := mw_of (Ts := tables_1_1) (sg_1 hts) 221 (by rfl) rfl
set_option maxRecDepth 100000 in
theorem wd_291 (hts : ∀ w ∈ lw_tbl, w.before args0 s0 = true) : mw_G s0 (Jvm.Cond.code ({ cls := "InodeDisk$Directories", name := "fill", desc := "(III[B)V" } : Jvm.MethodName) prog_3_method_9_code (7 : Nat) (Option.none : Option Jvm.ClassFile.FieldType)) := mw_of (Ts := tables_1_1) (sg_1 hts) 227 (by rfl) rfl
set_option maxRecDepth 100000 in
theorem wd_295 (hts : ∀ w ∈ lw_tbl, w.before args0 s0 = true) : mw_G s0 (Jvm.Cond.code ({ cls := "InodeDisk$Directories", name := "slotAt", desc := "(II)I" } : Jvm.MethodName) prog_3_method_3_code (4 : Nat) (Option.some Jvm.ClassFile.FieldType.int)) := mw_of (Ts := tables_1_1) (sg_1 hts) 231 (by rfl) rfl
set_option maxRecDepth 100000 in
theorem wd_302 (hts : ∀ w ∈ lw_tbl, w.before args0 s0 = true) : mw_G s0 (Jvm.Cond.code ({ cls := "InodeDisk$Inodes", name := "addLinks", desc := "(II)V" } : Jvm.MethodName) prog_4_method_6_code (3 : Nat) (Option.none : Option Jvm.ClassFile.FieldType)) := mw_of (Ts := tables_1_1) (sg_1 hts) 238 (by rfl) rfl
set_option maxRecDepth 100000 in
theorem wd_306 (hts : ∀ w ∈ lw_tbl, w.before args0 s0 = true) : mw_G s0 (Jvm.Cond.code ({ cls := "InodeDisk$Inodes", name := "links", desc := "(I)I" } : Jvm.MethodName) prog_4_method_4_code (2 : Nat) (Option.some Jvm.ClassFile.FieldType.int)) := mw_of (Ts := tables_1_2) (sg_2 hts) 2 (by rfl) rfl
set_option maxRecDepth 100000 in
theorem wd_310 (hts : ∀ w ∈ lw_tbl, w.before args0 s0 = true) : mw_G s0 (Jvm.Cond.code ({ cls := "InodeDisk$Inodes", name := "setLinks", desc := "(II)V" } : Jvm.MethodName) prog_4_method_5_code (3 : Nat) (Option.none : Option Jvm.ClassFile.FieldType)) := mw_of (Ts := tables_1_2) (sg_2 hts) 6 (by rfl) rfl
set_option maxRecDepth 100000 in
theorem wd_316 (hts : ∀ w ∈ lw_tbl, w.before args0 s0 = true) : mw_G s0 (Jvm.Cond.code ({ cls := "InodeDisk", name := "setClean", desc := "(Z)V" } : Jvm.MethodName) prog_1_method_19_code (2 : Nat) (Option.none : Option Jvm.ClassFile.FieldType)) := mw_of (Ts := tables_1_2) (sg_2 hts) 12 (by rfl) rfl
set_option maxRecDepth 100000 in
theorem wd_352 (hts : ∀ w ∈ lw_tbl, w.before args0 s0 = true) : mw_G s0 (Jvm.Cond.code ({ cls := "InodeDisk", name := "type", desc := "(C)I" } : Jvm.MethodName) prog_1_method_3_code (2 : Nat) (Option.some Jvm.ClassFile.FieldType.int)) := mw_of (Ts := tables_1_2) (sg_2 hts) 48 (by rfl) rfl
set_option maxRecDepth 100000 in
theorem wd_356 (hts : ∀ w ∈ lw_tbl, w.before args0 s0 = true) : mw_G s0 (Jvm.Cond.code ({ cls := "InodeDisk$Path", name := "add", desc := "(C)I" } : Jvm.MethodName) prog_5_method_4_code (2 : Nat) (Option.some Jvm.ClassFile.FieldType.int)) := mw_of (Ts := tables_1_2) (sg_2 hts) 52 (by rfl) rfl
set_option maxRecDepth 100000 in
theorem wd_360 (hts : ∀ w ∈ lw_tbl, w.before args0 s0 = true) : mw_G s0 (Jvm.Cond.code ({ cls := "InodeDisk", name := "keep", desc := "()I" } : Jvm.MethodName) prog_1_method_4_code (1 : Nat) (Option.some Jvm.ClassFile.FieldType.int)) := mw_of (Ts := tables_1_2) (sg_2 hts) 56 (by rfl) rfl
set_option maxRecDepth 100000 in
theorem wd_364 (hts : ∀ w ∈ lw_tbl, w.before args0 s0 = true) : mw_G s0 (Jvm.Cond.code ({ cls := "InodeDisk$Path", name := "become", desc := "(LInodeDisk$Path;)V" } : Jvm.MethodName) prog_5_method_5_code (3 : Nat) (Option.none : Option Jvm.ClassFile.FieldType)) := mw_of (Ts := tables_1_2) (sg_2 hts) 60 (by rfl) rfl
set_option maxRecDepth 100000 in
theorem wd_368 (hts : ∀ w ∈ lw_tbl, w.before args0 s0 = true) : mw_G s0 (Jvm.Cond.code ({ cls := "InodeDisk$Path", name := "empty", desc := "()V" } : Jvm.MethodName) prog_5_method_3_code (1 : Nat) (Option.none : Option Jvm.ClassFile.FieldType)) := mw_of (Ts := tables_1_2) (sg_2 hts) 64 (by rfl) rfl
set_option maxRecDepth 100000 in
theorem wd_372 (hts : ∀ w ∈ lw_tbl, w.before args0 s0 = true) : mw_G s0 (Jvm.Cond.code ({ cls := "InodeDisk$Path", name := "length", desc := "()I" } : Jvm.MethodName) prog_5_method_2_code (1 : Nat) (Option.some Jvm.ClassFile.FieldType.int)) := mw_of (Ts := tables_1_2) (sg_2 hts) 68 (by rfl) rfl
set_option maxRecDepth 100000 in
theorem wd_376 (hts : ∀ w ∈ lw_tbl, w.before args0 s0 = true) : mw_G s0 (Jvm.Cond.code ({ cls := "InodeDisk", name := "spoil", desc := "(III)Z" } : Jvm.MethodName) prog_1_method_15_code (5 : Nat) (Option.some Jvm.ClassFile.FieldType.boolean)) := mw_of (Ts := tables_1_2) (sg_2 hts) 72 (by rfl) rfl
set_option maxRecDepth 100000 in
theorem wd_380 (hts : ∀ w ∈ lw_tbl, w.before args0 s0 = true) : mw_G s0 (Jvm.Cond.code ({ cls := "InodeDisk", name := "spoilMap", desc := "(LInodeDisk$TakenMap;I)Z" } : Jvm.MethodName) prog_1_method_28_code (3 : Nat) (Option.some Jvm.ClassFile.FieldType.boolean)) := mw_of (Ts := tables_1_2) (sg_2 hts) 76 (by rfl) rfl
set_option maxRecDepth 100000 in
theorem wd_384 (hts : ∀ w ∈ lw_tbl, w.before args0 s0 = true) : mw_G s0 (Jvm.Cond.code ({ cls := "InodeDisk$TakenMap", name := "canChange", desc := "(I)Z" } : Jvm.MethodName) prog_8_method_4_code (2 : Nat) (Option.some Jvm.ClassFile.FieldType.boolean)) := mw_of (Ts := tables_1_2) (sg_2 hts) 80 (by rfl) rfl
set_option maxRecDepth 100000 in
theorem wd_388 (hts : ∀ w ∈ lw_tbl, w.before args0 s0 = true) : mw_G s0 (Jvm.Cond.code ({ cls := "InodeDisk$TakenMap", name := "turn", desc := "(I)V" } : Jvm.MethodName) prog_8_method_6_code (2 : Nat) (Option.none : Option Jvm.ClassFile.FieldType)) := mw_of (Ts := tables_1_2) (sg_2 hts) 84 (by rfl) rfl
set_option maxRecDepth 100000 in
theorem wd_392 (hts : ∀ w ∈ lw_tbl, w.before args0 s0 = true) : mw_G s0 (Jvm.Cond.code ({ cls := "InodeDisk", name := "spoilLinks", desc := "(II)Z" } : Jvm.MethodName) prog_1_method_29_code (3 : Nat) (Option.some Jvm.ClassFile.FieldType.boolean)) := mw_of (Ts := tables_1_2) (sg_2 hts) 88 (by rfl) rfl
set_option maxRecDepth 100000 in
theorem wd_396 (hts : ∀ w ∈ lw_tbl, w.before args0 s0 = true) : mw_G s0 (Jvm.Cond.code ({ cls := "InodeDisk$Inodes", name := "kind", desc := "(I)I" } : Jvm.MethodName) prog_4_method_3_code (2 : Nat) (Option.some Jvm.ClassFile.FieldType.int)) := mw_of (Ts := tables_1_2) (sg_2 hts) 92 (by rfl) rfl
set_option maxRecDepth 100000 in
theorem wd_401 (hts : ∀ w ∈ lw_tbl, w.before args0 s0 = true) : mw_G s0 (Jvm.Cond.code ({ cls := "InodeDisk", name := "check", desc := "(Z)I" } : Jvm.MethodName) prog_1_method_16_code (3 : Nat) (Option.some Jvm.ClassFile.FieldType.int)) := mw_of (Ts := tables_1_2) (sg_2 hts) 97 (by rfl) rfl
set_option maxRecDepth 100000 in
theorem wd_405 (hts : ∀ w ∈ lw_tbl, w.before args0 s0 = true) : mw_G s0 (Jvm.Cond.code ({ cls := "InodeDisk$Survey", name := "goThroughTree", desc := "()V" } : Jvm.MethodName) prog_7_method_2_code (2 : Nat) (Option.none : Option Jvm.ClassFile.FieldType)) := mw_of (Ts := tables_1_2) (sg_2 hts) 101 (by rfl) rfl
set_option maxRecDepth 100000 in
theorem wd_409 (hts : ∀ w ∈ lw_tbl, w.before args0 s0 = true) : mw_G s0 (Jvm.Cond.code ({ cls := "InodeDisk$Survey", name := "forget", desc := "()V" } : Jvm.MethodName) prog_7_method_3_code (2 : Nat) (Option.none : Option Jvm.ClassFile.FieldType)) := mw_of (Ts := tables_1_2) (sg_2 hts) 105 (by rfl) rfl
set_option maxRecDepth 100000 in
theorem wd_413 (hts : ∀ w ∈ lw_tbl, w.before args0 s0 = true) : mw_G s0 (Jvm.Cond.code ({ cls := "InodeDisk$Survey", name := "noteInode", desc := "(I)V" } : Jvm.MethodName) prog_7_method_4_code (2 : Nat) (Option.none : Option Jvm.ClassFile.FieldType)) := mw_of (Ts := tables_1_2) (sg_2 hts) 109 (by rfl) rfl
set_option maxRecDepth 100000 in
theorem wd_417 (hts : ∀ w ∈ lw_tbl, w.before args0 s0 = true) : mw_G s0 (Jvm.Cond.code ({ cls := "InodeDisk$Survey", name := "noteBlocks", desc := "(I)V" } : Jvm.MethodName) prog_7_method_5_code (3 : Nat) (Option.none : Option Jvm.ClassFile.FieldType)) := mw_of (Ts := tables_1_2) (sg_2 hts) 113 (by rfl) rfl
set_option maxRecDepth 100000 in
theorem wd_422 (hts : ∀ w ∈ lw_tbl, w.before args0 s0 = true) : mw_G s0 (Jvm.Cond.code ({ cls := "InodeDisk$Survey", name := "noteBlock", desc := "(I)V" } : Jvm.MethodName) prog_7_method_6_code (2 : Nat) (Option.none : Option Jvm.ClassFile.FieldType)) := mw_of (Ts := tables_1_2) (sg_2 hts) 118 (by rfl) rfl
set_option maxRecDepth 100000 in
theorem wd_426 (hts : ∀ w ∈ lw_tbl, w.before args0 s0 = true) : mw_G s0 (Jvm.Cond.code ({ cls := "InodeDisk$Inodes", name := "blockOf", desc := "(II)I" } : Jvm.MethodName) prog_4_method_11_code (3 : Nat) (Option.some Jvm.ClassFile.FieldType.int)) := mw_of (Ts := tables_1_2) (sg_2 hts) 122 (by rfl) rfl
set_option maxRecDepth 100000 in
theorem wd_431 (hts : ∀ w ∈ lw_tbl, w.before args0 s0 = true) : mw_G s0 (Jvm.Cond.code ({ cls := "InodeDisk$Survey", name := "noteSlots", desc := "(I)V" } : Jvm.MethodName) prog_7_method_7_code (5 : Nat) (Option.none : Option Jvm.ClassFile.FieldType)) := mw_of (Ts := tables_1_2) (sg_2 hts) 127 (by rfl) rfl
set_option maxRecDepth 100000 in
theorem wd_435 (hts : ∀ w ∈ lw_tbl, w.before args0 s0 = true) : mw_G s0 (Jvm.Cond.code ({ cls := "InodeDisk$Directories", name := "slots", desc := "(I)I" } : Jvm.MethodName) prog_3_method_2_code (2 : Nat) (Option.some Jvm.ClassFile.FieldType.int)) := mw_of (Ts := tables_1_2) (sg_2 hts) 131 (by rfl) rfl
set_option maxRecDepth 100000 in
theorem wd_439 (hts : ∀ w ∈ lw_tbl, w.before args0 s0 = true) : mw_G s0 (Jvm.Cond.code ({ cls := "InodeDisk$Inodes", name := "size", desc := "(I)I" } : Jvm.MethodName) prog_4_method_7_code (3 : Nat) (Option.some Jvm.ClassFile.FieldType.int)) := mw_of (Ts := tables_1_2) (sg_2 hts) 135 (by rfl) rfl
set_option maxRecDepth 100000 in
theorem wd_442 (hts : ∀ w ∈ lw_tbl, w.before args0 s0 = true) : mw_G s0 (Jvm.Cond.code ({ cls := "java/lang/Math", name := "min", desc := "(II)I" } : Jvm.MethodName) prog_14_method_69_code (2 : Nat) (Option.some Jvm.ClassFile.FieldType.int)) := mw_of (Ts := tables_1_2) (sg_2 hts) 138 (by rfl) rfl
set_option maxRecDepth 100000 in
theorem wd_446 (hts : ∀ w ∈ lw_tbl, w.before args0 s0 = true) : mw_G s0 (Jvm.Cond.code ({ cls := "InodeDisk$Directories", name := "inodeIn", desc := "(II)I" } : Jvm.MethodName) prog_3_method_4_code (3 : Nat) (Option.some Jvm.ClassFile.FieldType.int)) := mw_of (Ts := tables_1_2) (sg_2 hts) 142 (by rfl) rfl
set_option maxRecDepth 100000 in
theorem wd_450 (hts : ∀ w ∈ lw_tbl, w.before args0 s0 = true) : mw_G s0 (Jvm.Cond.code ({ cls := "InodeDisk$Survey", name := "wrongInodes", desc := "(LInodeDisk$TakenMap;Z)I" } : Jvm.MethodName) prog_7_method_8_code (3 : Nat) (Option.some Jvm.ClassFile.FieldType.int)) := mw_of (Ts := tables_1_2) (sg_2 hts) 146 (by rfl) rfl
set_option maxRecDepth 100000 in
theorem wd_453 (hts : ∀ w ∈ lw_tbl, w.before args0 s0 = true) : mw_G s0 (Jvm.Cond.code ({ cls := "InodeDisk$Survey", name := "wrongBits", desc := "(LInodeDisk$TakenMap;[ZZ)I" } : Jvm.MethodName) prog_7_method_10_code (5 : Nat) (Option.some Jvm.ClassFile.FieldType.int)) := mw_of (Ts := tables_1_2) (sg_2 hts) 149 (by rfl) rfl
set_option maxRecDepth 100000 in
theorem wd_457 (hts : ∀ w ∈ lw_tbl, w.before args0 s0 = true) : mw_G s0 (Jvm.Cond.code ({ cls := "InodeDisk$TakenMap", name := "first", desc := "()I" } : Jvm.MethodName) prog_8_method_2_code (1 : Nat) (Option.some Jvm.ClassFile.FieldType.int)) := mw_of (Ts := tables_1_2) (sg_2 hts) 153 (by rfl) rfl
set_option maxRecDepth 100000 in
theorem wd_461 (hts : ∀ w ∈ lw_tbl, w.before args0 s0 = true) : mw_G s0 (Jvm.Cond.code ({ cls := "InodeDisk$TakenMap", name := "size", desc := "()I" } : Jvm.MethodName) prog_8_method_3_code (1 : Nat) (Option.some Jvm.ClassFile.FieldType.int)) := mw_of (Ts := tables_1_2) (sg_2 hts) 157 (by rfl) rfl
set_option maxRecDepth 100000 in
theorem wd_465 (hts : ∀ w ∈ lw_tbl, w.before args0 s0 = true) : mw_G s0 (Jvm.Cond.code ({ cls := "InodeDisk$TakenMap", name := "isTaken", desc := "(I)Z" } : Jvm.MethodName) prog_8_method_5_code (2 : Nat) (Option.some Jvm.ClassFile.FieldType.boolean)) := mw_of (Ts := tables_1_2) (sg_2 hts) 161 (by rfl) rfl
set_option maxRecDepth 100000 in
theorem wd_470 (hts : ∀ w ∈ lw_tbl, w.before args0 s0 = true) : mw_G s0 (Jvm.Cond.code ({ cls := "InodeDisk$Survey", name := "wrongBlocks", desc := "(LInodeDisk$TakenMap;Z)I" } : Jvm.MethodName) prog_7_method_9_code (3 : Nat) (Option.some Jvm.ClassFile.FieldType.int)) := mw_of (Ts := tables_1_2) (sg_2 hts) 166 (by rfl) rfl
set_option maxRecDepth 100000 in
theorem wd_474 (hts : ∀ w ∈ lw_tbl, w.before args0 s0 = true) : mw_G s0 (Jvm.Cond.code ({ cls := "InodeDisk$Survey", name := "wrongLinks", desc := "(Z)I" } : Jvm.MethodName) prog_7_method_11_code (4 : Nat) (Option.some Jvm.ClassFile.FieldType.int)) := mw_of (Ts := tables_1_2) (sg_2 hts) 170 (by rfl) rfl
set_option maxRecDepth 100000 in
theorem wd_480 (hts : ∀ w ∈ lw_tbl, w.before args0 s0 = true) : mw_G s0 (Jvm.Cond.code ({ cls := "InodeDisk", name := "byteAt", desc := "(I)I" } : Jvm.MethodName) prog_1_method_17_code (2 : Nat) (Option.some Jvm.ClassFile.FieldType.int)) := mw_of (Ts := tables_1_2) (sg_2 hts) 176 (by rfl) rfl
set_option maxRecDepth 100000 in
theorem wd_485 (hts : ∀ w ∈ lw_tbl, w.before args0 s0 = true) : mw_G s0 (Jvm.Cond.code ({ cls := "InodeDisk", name := "count", desc := "(I)I" } : Jvm.MethodName) prog_1_method_18_code (2 : Nat) (Option.some Jvm.ClassFile.FieldType.int)) := mw_of (Ts := tables_1_2) (sg_2 hts) 181 (by rfl) rfl
set_option maxRecDepth 100000 in
theorem wd_489 (hts : ∀ w ∈ lw_tbl, w.before args0 s0 = true) : mw_G s0 (Jvm.Cond.code ({ cls := "InodeDisk$TakenMap", name := "left", desc := "()I" } : Jvm.MethodName) prog_8_method_8_code (3 : Nat) (Option.some Jvm.ClassFile.FieldType.int)) := mw_of (Ts := tables_1_2) (sg_2 hts) 185 (by rfl) rfl
set_option maxRecDepth 100000 in
theorem wd_492 (hts : ∀ w ∈ lw_tbl, w.before args0 s0 = true) : mw_G s0 (Jvm.Cond.codeWith ({ cls := "InodeDiskLaw", name := "create", desc := "(LInodeDisk;[J)I" } : Jvm.MethodName) method_3_code (3 : Nat) (Option.some Jvm.ClassFile.FieldType.int) [((0 : Nat), (8 : Nat), (11 : Nat), (13 : Nat)), ((0 : Nat), (8 : Nat), (14 : Nat), (15 : Nat))]) := mw_of (Ts := tables_1_2) (sg_2 hts) 188 (by rfl) rfl
set_option maxRecDepth 100000 in
theorem wd_498 (hts : ∀ w ∈ lw_tbl, w.before args0 s0 = true) : mw_G s0 (Jvm.Cond.code ({ cls := "InodeDisk", name := "create", desc := "()I" } : Jvm.MethodName) prog_1_method_5_code (2 : Nat) (Option.some Jvm.ClassFile.FieldType.int)) := mw_of (Ts := tables_1_2) (sg_2 hts) 194 (by rfl) rfl
set_option maxRecDepth 100000 in
theorem wd_502 (hts : ∀ w ∈ lw_tbl, w.before args0 s0 = true) : mw_G s0 (Jvm.Cond.code ({ cls := "InodeDisk", name := "takePathA", desc := "()V" } : Jvm.MethodName) prog_1_method_20_code (1 : Nat) (Option.none : Option Jvm.ClassFile.FieldType)) := mw_of (Ts := tables_1_2) (sg_2 hts) 198 (by rfl) rfl
set_option maxRecDepth 100000 in
theorem wd_506 (hts : ∀ w ∈ lw_tbl, w.before args0 s0 = true) : mw_G s0 (Jvm.Cond.code ({ cls := "InodeDisk$Directories", name := "follow", desc := "(LInodeDisk$Path;LInodeDisk$Place;)V" } : Jvm.MethodName) prog_3_method_16_code (4 : Nat) (Option.none : Option Jvm.ClassFile.FieldType)) := mw_of (Ts := tables_1_2) (sg_2 hts) 202 (by rfl) rfl
set_option maxRecDepth 100000 in
theorem wd_510 (hts : ∀ w ∈ lw_tbl, w.before args0 s0 = true) : mw_G s0 (Jvm.Cond.code ({ cls := "InodeDisk$Place", name := "clear", desc := "()V" } : Jvm.MethodName) prog_6_method_2_code (1 : Nat) (Option.none : Option Jvm.ClassFile.FieldType)) := mw_of (Ts := tables_1_2) (sg_2 hts) 206 (by rfl) rfl
set_option maxRecDepth 100000 in
theorem wd_514 (hts : ∀ w ∈ lw_tbl, w.before args0 s0 = true) : mw_G s0 (Jvm.Cond.code ({ cls := "InodeDisk$Path", name := "isPath", desc := "()Z" } : Jvm.MethodName) prog_5_method_6_code (3 : Nat) (Option.some Jvm.ClassFile.FieldType.boolean)) := mw_of (Ts := tables_1_2) (sg_2 hts) 210 (by rfl) rfl
set_option maxRecDepth 100000 in
theorem wd_519 (hts : ∀ w ∈ lw_tbl, w.before args0 s0 = true) : mw_G s0 (Jvm.Cond.code ({ cls := "InodeDisk$Path", name := "startsName", desc := "(I)Z" } : Jvm.MethodName) prog_5_method_7_code (2 : Nat) (Option.some Jvm.ClassFile.FieldType.boolean)) := mw_of (Ts := tables_1_2) (sg_2 hts) 215 (by rfl) rfl
set_option maxRecDepth 100000 in
theorem wd_523 (hts : ∀ w ∈ lw_tbl, w.before args0 s0 = true) : mw_G s0 (Jvm.Cond.code ({ cls := "InodeDisk$Path", name := "copyName", desc := "(I[B)V" } : Jvm.MethodName) prog_5_method_8_code (5 : Nat) (Option.none : Option Jvm.ClassFile.FieldType)) := mw_of (Ts := tables_1_2) (sg_2 hts) 219 (by rfl) rfl
set_option maxRecDepth 100000 in
theorem wd_528 (hts : ∀ w ∈ lw_tbl, w.before args0 s0 = true) : mw_G s0 (Jvm.Cond.code ({ cls := "InodeDisk$Directories", name := "find", desc := "(I[B)I" } : Jvm.MethodName) prog_3_method_6_code (6 : Nat) (Option.some Jvm.ClassFile.FieldType.int)) := mw_of (Ts := tables_1_2) (sg_2 hts) 224 (by rfl) rfl
set_option maxRecDepth 100000 in
theorem wd_533 (hts : ∀ w ∈ lw_tbl, w.before args0 s0 = true) : mw_G s0 (Jvm.Cond.code ({ cls := "InodeDisk$Directories", name := "hasName", desc := "(I[B)Z" } : Jvm.MethodName) prog_3_method_5_code (4 : Nat) (Option.some Jvm.ClassFile.FieldType.boolean)) := mw_of (Ts := tables_1_2) (sg_2 hts) 229 (by rfl) rfl
set_option maxRecDepth 100000 in
theorem wd_538 (hts : ∀ w ∈ lw_tbl, w.before args0 s0 = true) : mw_G s0 (Jvm.Cond.code ({ cls := "InodeDisk", name := "requireNewName", desc := "()V" } : Jvm.MethodName) prog_1_method_23_code (1 : Nat) (Option.none : Option Jvm.ClassFile.FieldType)) := mw_of (Ts := tables_1_2) (sg_2 hts) 234 (by rfl) rfl
set_option maxRecDepth 100000 in
theorem wd_542 (hts : ∀ w ∈ lw_tbl, w.before args0 s0 = true) : mw_G s0 (Jvm.Cond.code ({ cls := "InodeDisk", name := "requireClean", desc := "()V" } : Jvm.MethodName) prog_1_method_22_code (1 : Nat) (Option.none : Option Jvm.ClassFile.FieldType)) := mw_of (Ts := tables_1_2) (sg_2 hts) 238 (by rfl) rfl
set_option maxRecDepth 100000 in
theorem wd_630 (hts : ∀ w ∈ lw_tbl, w.before args0 s0 = true) : mw_G s0 (Jvm.Cond.code ({ cls := "InodeDisk", name := "requireInode", desc := "()V" } : Jvm.MethodName) prog_1_method_24_code (1 : Nat) (Option.none : Option Jvm.ClassFile.FieldType)) := mw_of (Ts := tables_1_3) (sg_3 hts) 86 (by rfl) rfl
set_option maxRecDepth 100000 in
theorem wd_635 (hts : ∀ w ∈ lw_tbl, w.before args0 s0 = true) : mw_G s0 (Jvm.Cond.code ({ cls := "InodeDisk", name := "requireNewSlot", desc := "(I)V" } : Jvm.MethodName) prog_1_method_25_code (2 : Nat) (Option.none : Option Jvm.ClassFile.FieldType)) := mw_of (Ts := tables_1_3) (sg_3 hts) 91 (by rfl) rfl
set_option maxRecDepth 100000 in
theorem wd_640 (hts : ∀ w ∈ lw_tbl, w.before args0 s0 = true) : mw_G s0 (Jvm.Cond.code ({ cls := "InodeDisk$Directories", name := "hasRoom", desc := "(II)Z" } : Jvm.MethodName) prog_3_method_8_code (5 : Nat) (Option.some Jvm.ClassFile.FieldType.boolean)) := mw_of (Ts := tables_1_3) (sg_3 hts) 96 (by rfl) rfl
set_option maxRecDepth 100000 in
theorem wd_644 (hts : ∀ w ∈ lw_tbl, w.before args0 s0 = true) : mw_G s0 (Jvm.Cond.code ({ cls := "InodeDisk$Directories", name := "slotForNew", desc := "(I)I" } : Jvm.MethodName) prog_3_method_7_code (4 : Nat) (Option.some Jvm.ClassFile.FieldType.int)) := mw_of (Ts := tables_1_3) (sg_3 hts) 100 (by rfl) rfl
set_option maxRecDepth 100000 in
theorem wd_648 (hts : ∀ w ∈ lw_tbl, w.before args0 s0 = true) : mw_G s0 (Jvm.Cond.code ({ cls := "InodeDisk$Inodes", name := "blocksWanted", desc := "(III)I" } : Jvm.MethodName) prog_4_method_16_code (6 : Nat) (Option.some Jvm.ClassFile.FieldType.int)) := mw_of (Ts := tables_1_3) (sg_3 hts) 104 (by rfl) rfl
set_option maxRecDepth 100000 in
theorem wd_653 (hts : ∀ w ∈ lw_tbl, w.before args0 s0 = true) : mw_G s0 (Jvm.Cond.code ({ cls := "InodeDisk$Inodes", name := "spaceLeft", desc := "()I" } : Jvm.MethodName) prog_4_method_17_code (1 : Nat) (Option.some Jvm.ClassFile.FieldType.int)) := mw_of (Ts := tables_1_3) (sg_3 hts) 109 (by rfl) rfl
set_option maxRecDepth 100000 in
theorem wd_659 (hts : ∀ w ∈ lw_tbl, w.before args0 s0 = true) : mw_G s0 (Jvm.Cond.code ({ cls := "InodeDisk$Directories", name := "add", desc := "(II[B)V" } : Jvm.MethodName) prog_3_method_10_code (5 : Nat) (Option.none : Option Jvm.ClassFile.FieldType)) := mw_of (Ts := tables_1_3) (sg_3 hts) 115 (by rfl) rfl
set_option maxRecDepth 100000 in
theorem wd_662 (hts : ∀ w ∈ lw_tbl, w.before args0 s0 = true) : mw_G s0 (Jvm.Cond.codeWith ({ cls := "InodeDiskLaw", name := "makeDirectory", desc := "(LInodeDisk;[J)I" } : Jvm.MethodName) method_4_code (3 : Nat) (Option.some Jvm.ClassFile.FieldType.int) [((0 : Nat), (8 : Nat), (11 : Nat), (13 : Nat)), ((0 : Nat), (8 : Nat), (14 : Nat), (15 : Nat))]) := mw_of (Ts := tables_1_3) (sg_3 hts) 118 (by rfl) rfl
set_option maxRecDepth 100000 in
theorem wd_666 (hts : ∀ w ∈ lw_tbl, w.before args0 s0 = true) : mw_G s0 (Jvm.Cond.code ({ cls := "InodeDisk", name := "makeDirectory", desc := "()I" } : Jvm.MethodName) prog_1_method_6_code (2 : Nat) (Option.some Jvm.ClassFile.FieldType.int)) := mw_of (Ts := tables_1_3) (sg_3 hts) 122 (by rfl) rfl
set_option maxRecDepth 100000 in
theorem wd_669 (hts : ∀ w ∈ lw_tbl, w.before args0 s0 = true) : mw_G s0 (Jvm.Cond.codeWith ({ cls := "InodeDiskLaw", name := "link", desc := "(LInodeDisk;[J)I" } : Jvm.MethodName) method_5_code (3 : Nat) (Option.some Jvm.ClassFile.FieldType.int) [((0 : Nat), (8 : Nat), (11 : Nat), (13 : Nat)), ((0 : Nat), (8 : Nat), (14 : Nat), (15 : Nat)), ((0 : Nat), (8 : Nat), (17 : Nat), (23 : Nat))]) := mw_of (Ts := tables_1_3) (sg_3 hts) 125 (by rfl) rfl
set_option maxRecDepth 100000 in
theorem wd_674 (hts : ∀ w ∈ lw_tbl, w.before args0 s0 = true) : mw_G s0 (Jvm.Cond.code ({ cls := "InodeDisk", name := "link", desc := "()I" } : Jvm.MethodName) prog_1_method_7_code (2 : Nat) (Option.some Jvm.ClassFile.FieldType.int)) := mw_of (Ts := tables_1_3) (sg_3 hts) 130 (by rfl) rfl
set_option maxRecDepth 100000 in
theorem wd_678 (hts : ∀ w ∈ lw_tbl, w.before args0 s0 = true) : mw_G s0 (Jvm.Cond.code ({ cls := "InodeDisk", name := "takePathB", desc := "()V" } : Jvm.MethodName) prog_1_method_21_code (1 : Nat) (Option.none : Option Jvm.ClassFile.FieldType)) := mw_of (Ts := tables_1_3) (sg_3 hts) 134 (by rfl) rfl
set_option maxRecDepth 100000 in
theorem wd_682 (hts : ∀ w ∈ lw_tbl, w.before args0 s0 = true) : mw_G s0 (Jvm.Cond.code ({ cls := "InodeDisk", name := "fileAt", desc := "(LInodeDisk$Place;)I" } : Jvm.MethodName) prog_1_method_27_code (3 : Nat) (Option.some Jvm.ClassFile.FieldType.int)) := mw_of (Ts := tables_1_3) (sg_3 hts) 138 (by rfl) rfl
set_option maxRecDepth 100000 in
theorem wd_686 (hts : ∀ w ∈ lw_tbl, w.before args0 s0 = true) : mw_G s0 (Jvm.Cond.code ({ cls := "InodeDisk", name := "thingAt", desc := "(LInodeDisk$Place;)I" } : Jvm.MethodName) prog_1_method_26_code (2 : Nat) (Option.some Jvm.ClassFile.FieldType.int)) := mw_of (Ts := tables_1_3) (sg_3 hts) 142 (by rfl) rfl
set_option maxRecDepth 100000 in
theorem wd_708 (hts : ∀ w ∈ lw_tbl, w.before args0 s0 = true) : mw_G s0 (Jvm.Cond.codeWith ({ cls := "InodeDiskLaw", name := "unlink", desc := "(LInodeDisk;[J)I" } : Jvm.MethodName) method_6_code (3 : Nat) (Option.some Jvm.ClassFile.FieldType.int) [((0 : Nat), (8 : Nat), (11 : Nat), (13 : Nat)), ((0 : Nat), (8 : Nat), (14 : Nat), (15 : Nat)), ((0 : Nat), (8 : Nat), (17 : Nat), (23 : Nat))]) := mw_of (Ts := tables_1_3) (sg_3 hts) 164 (by rfl) rfl
set_option maxRecDepth 100000 in
theorem wd_712 (hts : ∀ w ∈ lw_tbl, w.before args0 s0 = true) : mw_G s0 (Jvm.Cond.code ({ cls := "InodeDisk", name := "unlink", desc := "()I" } : Jvm.MethodName) prog_1_method_8_code (3 : Nat) (Option.some Jvm.ClassFile.FieldType.int)) := mw_of (Ts := tables_1_3) (sg_3 hts) 168 (by rfl) rfl
set_option maxRecDepth 100000 in
theorem wd_716 (hts : ∀ w ∈ lw_tbl, w.before args0 s0 = true) : mw_G s0 (Jvm.Cond.code ({ cls := "InodeDisk$Directories", name := "free", desc := "(II)V" } : Jvm.MethodName) prog_3_method_11_code (4 : Nat) (Option.none : Option Jvm.ClassFile.FieldType)) := mw_of (Ts := tables_1_3) (sg_3 hts) 172 (by rfl) rfl
set_option maxRecDepth 100000 in
theorem wd_721 (hts : ∀ w ∈ lw_tbl, w.before args0 s0 = true) : mw_G s0 (Jvm.Cond.code ({ cls := "InodeDisk$Inodes", name := "giveBack", desc := "(I)V" } : Jvm.MethodName) prog_4_method_23_code (2 : Nat) (Option.none : Option Jvm.ClassFile.FieldType)) := mw_of (Ts := tables_1_3) (sg_3 hts) 177 (by rfl) rfl
set_option maxRecDepth 100000 in
theorem wd_725 (hts : ∀ w ∈ lw_tbl, w.before args0 s0 = true) : mw_G s0 (Jvm.Cond.code ({ cls := "InodeDisk$Inodes", name := "dropPages", desc := "(II)V" } : Jvm.MethodName) prog_4_method_21_code (5 : Nat) (Option.none : Option Jvm.ClassFile.FieldType)) := mw_of (Ts := tables_1_3) (sg_3 hts) 181 (by rfl) rfl
set_option maxRecDepth 100000 in
theorem wd_729 (hts : ∀ w ∈ lw_tbl, w.before args0 s0 = true) : mw_G s0 (Jvm.Cond.code ({ cls := "InodeDisk$TakenMap", name := "giveBack", desc := "(I)V" } : Jvm.MethodName) prog_8_method_10_code (2 : Nat) (Option.none : Option Jvm.ClassFile.FieldType)) := mw_of (Ts := tables_1_3) (sg_3 hts) 185 (by rfl) rfl
set_option maxRecDepth 100000 in
theorem wd_734 (hts : ∀ w ∈ lw_tbl, w.before args0 s0 = true) : mw_G s0 (Jvm.Cond.code ({ cls := "InodeDisk$Inodes", name := "hasIndirectPage", desc := "(I)Z" } : Jvm.MethodName) prog_4_method_22_code (3 : Nat) (Option.some Jvm.ClassFile.FieldType.boolean)) := mw_of (Ts := tables_1_3) (sg_3 hts) 190 (by rfl) rfl
set_option maxRecDepth 100000 in
theorem wd_737 (hts : ∀ w ∈ lw_tbl, w.before args0 s0 = true) : mw_G s0 (Jvm.Cond.codeWith ({ cls := "InodeDiskLaw", name := "removeDirectory", desc := "(LInodeDisk;[J)I" } : Jvm.MethodName) method_7_code (3 : Nat) (Option.some Jvm.ClassFile.FieldType.int) [((0 : Nat), (8 : Nat), (11 : Nat), (13 : Nat)), ((0 : Nat), (8 : Nat), (14 : Nat), (15 : Nat)), ((0 : Nat), (8 : Nat), (17 : Nat), (23 : Nat)), ((0 : Nat), (8 : Nat), (20 : Nat), (31 : Nat))]) := mw_of (Ts := tables_1_3) (sg_3 hts) 193 (by rfl) rfl
set_option maxRecDepth 100000 in
theorem wd_742 (hts : ∀ w ∈ lw_tbl, w.before args0 s0 = true) : mw_G s0 (Jvm.Cond.code ({ cls := "InodeDisk", name := "removeDirectory", desc := "()I" } : Jvm.MethodName) prog_1_method_9_code (2 : Nat) (Option.some Jvm.ClassFile.FieldType.int)) := mw_of (Ts := tables_1_3) (sg_3 hts) 198 (by rfl) rfl
set_option maxRecDepth 100000 in
theorem wd_747 (hts : ∀ w ∈ lw_tbl, w.before args0 s0 = true) : mw_G s0 (Jvm.Cond.code ({ cls := "InodeDisk$Directories", name := "isEmpty", desc := "(I)Z" } : Jvm.MethodName) prog_3_method_14_code (4 : Nat) (Option.some Jvm.ClassFile.FieldType.boolean)) := mw_of (Ts := tables_1_3) (sg_3 hts) 203 (by rfl) rfl
set_option maxRecDepth 100000 in
theorem wd_768 (hts : ∀ w ∈ lw_tbl, w.before args0 s0 = true) : mw_G s0 (Jvm.Cond.code ({ cls := "InodeDisk$Inodes", name := "howMany", desc := "(I)I" } : Jvm.MethodName) prog_4_method_14_code (4 : Nat) (Option.some Jvm.ClassFile.FieldType.int)) := mw_of (Ts := tables_1_3) (sg_3 hts) 224 (by rfl) rfl
set_option maxRecDepth 100000 in
theorem wd_772 (hts : ∀ w ∈ lw_tbl, w.before args0 s0 = true) : mw_G s0 (Jvm.Cond.codeWith ({ cls := "InodeDiskLaw", name := "rename", desc := "(LInodeDisk;[J)I" } : Jvm.MethodName) method_8_code (3 : Nat) (Option.some Jvm.ClassFile.FieldType.int) [((0 : Nat), (8 : Nat), (11 : Nat), (13 : Nat)), ((0 : Nat), (8 : Nat), (14 : Nat), (15 : Nat)), ((0 : Nat), (8 : Nat), (17 : Nat), (23 : Nat)), ((0 : Nat), (8 : Nat), (20 : Nat), (31 : Nat))]) := mw_of (Ts := tables_1_3) (sg_3 hts) 228 (by rfl) rfl
set_option maxRecDepth 100000 in
theorem wd_776 (hts : ∀ w ∈ lw_tbl, w.before args0 s0 = true) : mw_G s0 (Jvm.Cond.code ({ cls := "InodeDisk", name := "rename", desc := "()I" } : Jvm.MethodName) prog_1_method_10_code (3 : Nat) (Option.some Jvm.ClassFile.FieldType.int)) := mw_of (Ts := tables_1_3) (sg_3 hts) 232 (by rfl) rfl
set_option maxRecDepth 100000 in
theorem wd_781 (hts : ∀ w ∈ lw_tbl, w.before args0 s0 = true) : mw_G s0 (Jvm.Cond.code ({ cls := "InodeDisk$Directories", name := "liesIn", desc := "(II)Z" } : Jvm.MethodName) prog_3_method_15_code (5 : Nat) (Option.some Jvm.ClassFile.FieldType.boolean)) := mw_of (Ts := tables_1_3) (sg_3 hts) 237 (by rfl) rfl
set_option maxRecDepth 100000 in
theorem wd_786 (hts : ∀ w ∈ lw_tbl, w.before args0 s0 = true) : mw_G s0 (Jvm.Cond.code ({ cls := "InodeDisk$Directories", name := "putUnder", desc := "(II)V" } : Jvm.MethodName) prog_3_method_13_code (4 : Nat) (Option.none : Option Jvm.ClassFile.FieldType)) := mw_of (Ts := tables_1_4) (sg_4 hts) 2 (by rfl) rfl
set_option maxRecDepth 100000 in
theorem wd_789 (hts : ∀ w ∈ lw_tbl, w.before args0 s0 = true) : mw_G s0 (Jvm.Cond.codeWith ({ cls := "InodeDiskLaw", name := "write", desc := "(LInodeDisk;IIJ[J)I" } : Jvm.MethodName) method_9_code (7 : Nat) (Option.some Jvm.ClassFile.FieldType.int) [((0 : Nat), (12 : Nat), (15 : Nat), (13 : Nat)), ((0 : Nat), (12 : Nat), (19 : Nat), (15 : Nat)), ((0 : Nat), (12 : Nat), (23 : Nat), (23 : Nat)), ((0 : Nat), (12 : Nat), (27 : Nat), (31 : Nat))]) := mw_of (Ts := tables_1_4) (sg_4 hts) 5 (by rfl) rfl
set_option maxRecDepth 100000 in
theorem wd_793 (hts : ∀ w ∈ lw_tbl, w.before args0 s0 = true) : mw_G s0 (Jvm.Cond.code ({ cls := "InodeDisk", name := "write", desc := "(IIJ)I" } : Jvm.MethodName) prog_1_method_11_code (10 : Nat) (Option.some Jvm.ClassFile.FieldType.int)) := mw_of (Ts := tables_1_4) (sg_4 hts) 9 (by rfl) rfl
set_option maxRecDepth 100000 in
theorem wd_801 (hts : ∀ w ∈ lw_tbl, w.before args0 s0 = true) : mw_G s0 (Jvm.Cond.code ({ cls := "InodeDisk$Inodes", name := "putByte", desc := "(III)V" } : Jvm.MethodName) prog_4_method_13_code (5 : Nat) (Option.none : Option Jvm.ClassFile.FieldType)) := mw_of (Ts := tables_1_4) (sg_4 hts) 17 (by rfl) rfl
set_option maxRecDepth 100000 in
theorem wd_805 (hts : ∀ w ∈ lw_tbl, w.before args0 s0 = true) : mw_G s0 (Jvm.Cond.code ({ cls := "java/lang/Math", name := "max", desc := "(II)I" } : Jvm.MethodName) prog_14_method_65_code (2 : Nat) (Option.some Jvm.ClassFile.FieldType.int)) := mw_of (Ts := tables_1_4) (sg_4 hts) 21 (by rfl) rfl
set_option maxRecDepth 100000 in
theorem wd_809 (hts : ∀ w ∈ lw_tbl, w.before args0 s0 = true) : mw_G s0 (Jvm.Cond.codeWith ({ cls := "InodeDiskLaw", name := "read", desc := "(LInodeDisk;I[J)I" } : Jvm.MethodName) method_10_code (4 : Nat) (Option.some Jvm.ClassFile.FieldType.int) [((0 : Nat), (8 : Nat), (11 : Nat), (13 : Nat)), ((0 : Nat), (8 : Nat), (14 : Nat), (15 : Nat)), ((0 : Nat), (8 : Nat), (17 : Nat), (23 : Nat)), ((0 : Nat), (8 : Nat), (20 : Nat), (31 : Nat))]) := mw_of (Ts := tables_1_4) (sg_4 hts) 25 (by rfl) rfl
set_option maxRecDepth 100000 in
theorem wd_813 (hts : ∀ w ∈ lw_tbl, w.before args0 s0 = true) : mw_G s0 (Jvm.Cond.code ({ cls := "InodeDisk", name := "read", desc := "(I)J" } : Jvm.MethodName) prog_1_method_12_code (7 : Nat) (Option.some Jvm.ClassFile.FieldType.long)) := mw_of (Ts := tables_1_4) (sg_4 hts) 29 (by rfl) rfl
set_option maxRecDepth 100000 in
theorem wd_819 (hts : ∀ w ∈ lw_tbl, w.before args0 s0 = true) : mw_G s0 (Jvm.Cond.code ({ cls := "InodeDisk$Inodes", name := "getByte", desc := "(II)I" } : Jvm.MethodName) prog_4_method_12_code (4 : Nat) (Option.some Jvm.ClassFile.FieldType.int)) := mw_of (Ts := tables_1_4) (sg_4 hts) 35 (by rfl) rfl
set_option maxRecDepth 100000 in
theorem wd_822 (hts : ∀ w ∈ lw_tbl, w.before args0 s0 = true) : mw_G s0 (Jvm.Cond.codeWith ({ cls := "InodeDiskLaw", name := "truncate", desc := "(LInodeDisk;I[J)I" } : Jvm.MethodName) method_11_code (4 : Nat) (Option.some Jvm.ClassFile.FieldType.int) [((0 : Nat), (9 : Nat), (12 : Nat), (13 : Nat)), ((0 : Nat), (9 : Nat), (15 : Nat), (15 : Nat)), ((0 : Nat), (9 : Nat), (18 : Nat), (23 : Nat)), ((0 : Nat), (9 : Nat), (21 : Nat), (31 : Nat))]) := mw_of (Ts := tables_1_4) (sg_4 hts) 38 (by rfl) rfl
set_option maxRecDepth 100000 in
theorem wd_826 (hts : ∀ w ∈ lw_tbl, w.before args0 s0 = true) : mw_G s0 (Jvm.Cond.code ({ cls := "InodeDisk", name := "truncate", desc := "(I)I" } : Jvm.MethodName) prog_1_method_13_code (6 : Nat) (Option.some Jvm.ClassFile.FieldType.int)) := mw_of (Ts := tables_1_4) (sg_4 hts) 42 (by rfl) rfl
set_option maxRecDepth 100000 in
theorem wd_831 (hts : ∀ w ∈ lw_tbl, w.before args0 s0 = true) : mw_G s0 (Jvm.Cond.codeWith ({ cls := "InodeDiskLaw", name := "stat", desc := "(LInodeDisk;I[J)I" } : Jvm.MethodName) method_12_code (4 : Nat) (Option.some Jvm.ClassFile.FieldType.int) [((0 : Nat), (9 : Nat), (12 : Nat), (13 : Nat)), ((0 : Nat), (9 : Nat), (15 : Nat), (15 : Nat)), ((0 : Nat), (9 : Nat), (18 : Nat), (31 : Nat))]) := mw_of (Ts := tables_1_4) (sg_4 hts) 47 (by rfl) rfl
set_option maxRecDepth 100000 in
theorem wd_835 (hts : ∀ w ∈ lw_tbl, w.before args0 s0 = true) : mw_G s0 (Jvm.Cond.code ({ cls := "InodeDisk", name := "stat", desc := "(I)I" } : Jvm.MethodName) prog_1_method_14_code (3 : Nat) (Option.some Jvm.ClassFile.FieldType.int)) := mw_of (Ts := tables_1_4) (sg_4 hts) 51 (by rfl) rfl
set_option maxRecDepth 100000 in
theorem wd_839 (hts : ∀ w ∈ lw_tbl, w.before args0 s0 = true) : mw_G s0 (Jvm.Cond.code ({ cls := "InodeDisk$Inodes", name := "blocks", desc := "(I)I" } : Jvm.MethodName) prog_4_method_15_code (4 : Nat) (Option.some Jvm.ClassFile.FieldType.int)) := mw_of (Ts := tables_1_4) (sg_4 hts) 55 (by rfl) rfl
set_option maxRecDepth 100000 in
theorem wd_845 (hts : ∀ w ∈ lw_tbl, w.before args0 s0 = true) : mw_G s0 (Jvm.Cond.code ({ cls := "InodeDiskModel", name := "<init>", desc := "()V" } : Jvm.MethodName) prog_10_method_1_code (1 : Nat) (Option.none : Option Jvm.ClassFile.FieldType)) := mw_of (Ts := tables_1_4) (sg_4 hts) 61 (by rfl) rfl
set_option maxRecDepth 100000 in
theorem wd_850 (hts : ∀ w ∈ lw_tbl, w.before args0 s0 = true) : mw_G s0 (Jvm.Cond.code ({ cls := "InodeDiskModel", name := "format", desc := "()V" } : Jvm.MethodName) prog_10_method_39_code (2 : Nat) (Option.none : Option Jvm.ClassFile.FieldType)) := mw_of (Ts := tables_1_4) (sg_4 hts) 66 (by rfl) rfl
set_option maxRecDepth 100000 in
theorem wd_854 (hts : ∀ w ∈ lw_tbl, w.before args0 s0 = true) : mw_G s0 (Jvm.Cond.code ({ cls := "InodeDiskModel", name := "mark", desc := "(IIZ)V" } : Jvm.MethodName) prog_10_method_4_code (5 : Nat) (Option.none : Option Jvm.ClassFile.FieldType)) := mw_of (Ts := tables_1_4) (sg_4 hts) 70 (by rfl) rfl
set_option maxRecDepth 100000 in
theorem wd_858 (hts : ∀ w ∈ lw_tbl, w.before args0 s0 = true) : mw_G s0 (Jvm.Cond.code ({ cls := "InodeDiskModel", name := "newInode", desc := "(II)I" } : Jvm.MethodName) prog_10_method_20_code (4 : Nat) (Option.some Jvm.ClassFile.FieldType.int)) := mw_of (Ts := tables_1_4) (sg_4 hts) 74 (by rfl) rfl
set_option maxRecDepth 100000 in
theorem wd_862 (hts : ∀ w ∈ lw_tbl, w.before args0 s0 = true) : mw_G s0 (Jvm.Cond.code ({ cls := "InodeDiskModel", name := "take", desc := "(I)I" } : Jvm.MethodName) prog_10_method_6_code (3 : Nat) (Option.some Jvm.ClassFile.FieldType.int)) := mw_of (Ts := tables_1_4) (sg_4 hts) 78 (by rfl) rfl
set_option maxRecDepth 100000 in
theorem wd_866 (hts : ∀ w ∈ lw_tbl, w.before args0 s0 = true) : mw_G s0 (Jvm.Cond.code ({ cls := "InodeDiskModel", name := "isTaken", desc := "(II)Z" } : Jvm.MethodName) prog_10_method_3_code (3 : Nat) (Option.some Jvm.ClassFile.FieldType.boolean)) := mw_of (Ts := tables_1_4) (sg_4 hts) 82 (by rfl) rfl
set_option maxRecDepth 100000 in
theorem wd_869 (hts : ∀ w ∈ lw_tbl, w.before args0 s0 = true) : mw_G s0 (Jvm.Cond.code ({ cls := "InodeDiskModel", name := "at", desc := "(I)I" } : Jvm.MethodName) prog_10_method_8_code (1 : Nat) (Option.some Jvm.ClassFile.FieldType.int)) := mw_of (Ts := tables_1_4) (sg_4 hts) 85 (by rfl) rfl
set_option maxRecDepth 100000 in
theorem wd_873 (hts : ∀ w ∈ lw_tbl, w.before args0 s0 = true) : mw_G s0 (Jvm.Cond.code ({ cls := "InodeDiskModel", name := "firstSlots", desc := "(II)V" } : Jvm.MethodName) prog_10_method_40_code (4 : Nat) (Option.none : Option Jvm.ClassFile.FieldType)) := mw_of (Ts := tables_1_4) (sg_4 hts) 89 (by rfl) rfl
set_option maxRecDepth 100000 in
theorem wd_877 (hts : ∀ w ∈ lw_tbl, w.before args0 s0 = true) : mw_G s0 (Jvm.Cond.code ({ cls := "InodeDiskModel", name := "fill", desc := "(II)V" } : Jvm.MethodName) prog_10_method_16_code (4 : Nat) (Option.none : Option Jvm.ClassFile.FieldType)) := mw_of (Ts := tables_1_4) (sg_4 hts) 93 (by rfl) rfl
set_option maxRecDepth 100000 in
theorem wd_881 (hts : ∀ w ∈ lw_tbl, w.before args0 s0 = true) : mw_G s0 (Jvm.Cond.code ({ cls := "InodeDiskModel", name := "takeBlock", desc := "()I" } : Jvm.MethodName) prog_10_method_7_code (3 : Nat) (Option.some Jvm.ClassFile.FieldType.int)) := mw_of (Ts := tables_1_4) (sg_4 hts) 97 (by rfl) rfl
set_option maxRecDepth 100000 in
theorem wd_885 (hts : ∀ w ∈ lw_tbl, w.before args0 s0 = true) : mw_G s0 (Jvm.Cond.code ({ cls := "InodeDiskModel", name := "pagePlace", desc := "(II)I" } : Jvm.MethodName) prog_10_method_13_code (4 : Nat) (Option.some Jvm.ClassFile.FieldType.int)) := mw_of (Ts := tables_1_4) (sg_4 hts) 101 (by rfl) rfl
set_option maxRecDepth 100000 in
theorem wd_889 (hts : ∀ w ∈ lw_tbl, w.before args0 s0 = true) : mw_G s0 (Jvm.Cond.code ({ cls := "InodeDiskModel", name := "setSize", desc := "(II)V" } : Jvm.MethodName) prog_10_method_11_code (3 : Nat) (Option.none : Option Jvm.ClassFile.FieldType)) := mw_of (Ts := tables_1_4) (sg_4 hts) 105 (by rfl) rfl
set_option maxRecDepth 100000 in
theorem wd_893 (hts : ∀ w ∈ lw_tbl, w.before args0 s0 = true) : mw_G s0 (Jvm.Cond.code ({ cls := "InodeDiskModel", name := "slotAt", desc := "(II)I" } : Jvm.MethodName) prog_10_method_22_code (3 : Nat) (Option.some Jvm.ClassFile.FieldType.int)) := mw_of (Ts := tables_1_4) (sg_4 hts) 109 (by rfl) rfl
set_option maxRecDepth 100000 in
theorem wd_897 (hts : ∀ w ∈ lw_tbl, w.before args0 s0 = true) : mw_G s0 (Jvm.Cond.code ({ cls := "InodeDiskModel", name := "blockOf", desc := "(II)I" } : Jvm.MethodName) prog_10_method_14_code (4 : Nat) (Option.some Jvm.ClassFile.FieldType.int)) := mw_of (Ts := tables_1_4) (sg_4 hts) 113 (by rfl) rfl
set_option maxRecDepth 100000 in
theorem wd_938 (hts : ∀ w ∈ lw_tbl, w.before args0 s0 = true) : mw_G s0 (Jvm.Cond.code ({ cls := "InodeDiskModel", name := "thrown", desc := "()I" } : Jvm.MethodName) prog_10_method_2_code (1 : Nat) (Option.some Jvm.ClassFile.FieldType.int)) := mw_of (Ts := tables_1_4) (sg_4 hts) 154 (by rfl) rfl
set_option maxRecDepth 100000 in
theorem wd_942 (hts : ∀ w ∈ lw_tbl, w.before args0 s0 = true) : mw_G s0 (Jvm.Cond.code ({ cls := "InodeDiskModel", name := "type", desc := "(C)I" } : Jvm.MethodName) prog_10_method_29_code (2 : Nat) (Option.some Jvm.ClassFile.FieldType.int)) := mw_of (Ts := tables_1_4) (sg_4 hts) 158 (by rfl) rfl
set_option maxRecDepth 100000 in
theorem wd_946 (hts : ∀ w ∈ lw_tbl, w.before args0 s0 = true) : mw_G s0 (Jvm.Cond.code ({ cls := "InodeDiskModel", name := "keep", desc := "()I" } : Jvm.MethodName) prog_10_method_30_code (2 : Nat) (Option.some Jvm.ClassFile.FieldType.int)) := mw_of (Ts := tables_1_4) (sg_4 hts) 162 (by rfl) rfl
set_option maxRecDepth 100000 in
theorem wd_951 (hts : ∀ w ∈ lw_tbl, w.before args0 s0 = true) : mw_G s0 (Jvm.Cond.code ({ cls := "InodeDiskModel", name := "create", desc := "()I" } : Jvm.MethodName) prog_10_method_41_code (3 : Nat) (Option.some Jvm.ClassFile.FieldType.int)) := mw_of (Ts := tables_1_4) (sg_4 hts) 167 (by rfl) rfl
set_option maxRecDepth 100000 in
theorem wd_955 (hts : ∀ w ∈ lw_tbl, w.before args0 s0 = true) : mw_G s0 (Jvm.Cond.code ({ cls := "InodeDiskModel", name := "above", desc := "()I" } : Jvm.MethodName) prog_10_method_36_code (4 : Nat) (Option.some Jvm.ClassFile.FieldType.int)) := mw_of (Ts := tables_1_4) (sg_4 hts) 171 (by rfl) rfl
set_option maxRecDepth 100000 in
theorem wd_959 (hts : ∀ w ∈ lw_tbl, w.before args0 s0 = true) : mw_G s0 (Jvm.Cond.code ({ cls := "InodeDiskModel", name := "parse", desc := "(Z)Z" } : Jvm.MethodName) prog_10_method_32_code (6 : Nat) (Option.some Jvm.ClassFile.FieldType.boolean)) := mw_of (Ts := tables_1_4) (sg_4 hts) 175 (by rfl) rfl
set_option maxRecDepth 100000 in
theorem wd_963 (hts : ∀ w ∈ lw_tbl, w.before args0 s0 = true) : mw_G s0 (Jvm.Cond.code ({ cls := "InodeDiskModel", name := "charAt", desc := "(ZI)I" } : Jvm.MethodName) prog_10_method_31_code (3 : Nat) (Option.some Jvm.ClassFile.FieldType.int)) := mw_of (Ts := tables_1_4) (sg_4 hts) 179 (by rfl) rfl
set_option maxRecDepth 100000 in
theorem wd_967 (hts : ∀ w ∈ lw_tbl, w.before args0 s0 = true) : mw_G s0 (Jvm.Cond.code ({ cls := "InodeDiskModel", name := "isClean", desc := "()Z" } : Jvm.MethodName) prog_10_method_34_code (1 : Nat) (Option.some Jvm.ClassFile.FieldType.boolean)) := mw_of (Ts := tables_1_4) (sg_4 hts) 183 (by rfl) rfl
set_option maxRecDepth 100000 in
theorem wd_971 (hts : ∀ w ∈ lw_tbl, w.before args0 s0 = true) : mw_G s0 (Jvm.Cond.code ({ cls := "InodeDiskModel", name := "lead", desc := "(I)I" } : Jvm.MethodName) prog_10_method_33_code (5 : Nat) (Option.some Jvm.ClassFile.FieldType.int)) := mw_of (Ts := tables_1_4) (sg_4 hts) 187 (by rfl) rfl
set_option maxRecDepth 100000 in
theorem wd_975 (hts : ∀ w ∈ lw_tbl, w.before args0 s0 = true) : mw_G s0 (Jvm.Cond.code ({ cls := "InodeDiskModel", name := "kind", desc := "(I)I" } : Jvm.MethodName) prog_10_method_9_code (2 : Nat) (Option.some Jvm.ClassFile.FieldType.int)) := mw_of (Ts := tables_1_4) (sg_4 hts) 191 (by rfl) rfl
set_option maxRecDepth 100000 in
theorem wd_979 (hts : ∀ w ∈ lw_tbl, w.before args0 s0 = true) : mw_G s0 (Jvm.Cond.code ({ cls := "InodeDiskModel", name := "slotOf", desc := "(II)I" } : Jvm.MethodName) prog_10_method_24_code (5 : Nat) (Option.some Jvm.ClassFile.FieldType.int)) := mw_of (Ts := tables_1_4) (sg_4 hts) 195 (by rfl) rfl
set_option maxRecDepth 100000 in
theorem wd_983 (hts : ∀ w ∈ lw_tbl, w.before args0 s0 = true) : mw_G s0 (Jvm.Cond.code ({ cls := "InodeDiskModel", name := "slots", desc := "(I)I" } : Jvm.MethodName) prog_10_method_21_code (2 : Nat) (Option.some Jvm.ClassFile.FieldType.int)) := mw_of (Ts := tables_1_4) (sg_4 hts) 199 (by rfl) rfl
set_option maxRecDepth 100000 in
theorem wd_987 (hts : ∀ w ∈ lw_tbl, w.before args0 s0 = true) : mw_G s0 (Jvm.Cond.code ({ cls := "InodeDiskModel", name := "size", desc := "(I)I" } : Jvm.MethodName) prog_10_method_10_code (2 : Nat) (Option.some Jvm.ClassFile.FieldType.int)) := mw_of (Ts := tables_1_4) (sg_4 hts) 203 (by rfl) rfl
set_option maxRecDepth 100000 in
theorem wd_991 (hts : ∀ w ∈ lw_tbl, w.before args0 s0 = true) : mw_G s0 (Jvm.Cond.code ({ cls := "InodeDiskModel", name := "isNamed", desc := "(II)Z" } : Jvm.MethodName) prog_10_method_23_code (5 : Nat) (Option.some Jvm.ClassFile.FieldType.boolean)) := mw_of (Ts := tables_1_4) (sg_4 hts) 207 (by rfl) rfl
set_option maxRecDepth 100000 in
theorem wd_995 (hts : ∀ w ∈ lw_tbl, w.before args0 s0 = true) : mw_G s0 (Jvm.Cond.code ({ cls := "InodeDiskModel", name := "free", desc := "(II)I" } : Jvm.MethodName) prog_10_method_5_code (5 : Nat) (Option.some Jvm.ClassFile.FieldType.int)) := mw_of (Ts := tables_1_4) (sg_4 hts) 211 (by rfl) rfl
set_option maxRecDepth 100000 in
theorem wd_999 (hts : ∀ w ∈ lw_tbl, w.before args0 s0 = true) : mw_G s0 (Jvm.Cond.code ({ cls := "InodeDiskModel", name := "roomNeeds", desc := "(I)I" } : Jvm.MethodName) prog_10_method_26_code (2 : Nat) (Option.some Jvm.ClassFile.FieldType.int)) := mw_of (Ts := tables_1_4) (sg_4 hts) 215 (by rfl) rfl
set_option maxRecDepth 100000 in
theorem wd_1003 (hts : ∀ w ∈ lw_tbl, w.before args0 s0 = true) : mw_G s0 (Jvm.Cond.code ({ cls := "InodeDiskModel", name := "freeSlot", desc := "(I)I" } : Jvm.MethodName) prog_10_method_25_code (3 : Nat) (Option.some Jvm.ClassFile.FieldType.int)) := mw_of (Ts := tables_1_4) (sg_4 hts) 219 (by rfl) rfl
set_option maxRecDepth 100000 in
theorem wd_1007 (hts : ∀ w ∈ lw_tbl, w.before args0 s0 = true) : mw_G s0 (Jvm.Cond.code ({ cls := "InodeDiskModel", name := "refuseIf", desc := "(ZI)V" } : Jvm.MethodName) prog_10_method_38_code (3 : Nat) (Option.none : Option Jvm.ClassFile.FieldType)) := mw_of (Ts := tables_1_4) (sg_4 hts) 223 (by rfl) rfl
set_option maxRecDepth 100000 in
theorem wd_1011 (hts : ∀ w ∈ lw_tbl, w.before args0 s0 = true) : mw_G s0 (Jvm.Cond.code ({ cls := "InodeDiskModel", name := "refuse", desc := "(I)V" } : Jvm.MethodName) prog_10_method_37_code (2 : Nat) (Option.none : Option Jvm.ClassFile.FieldType)) := mw_of (Ts := tables_1_4) (sg_4 hts) 227 (by rfl) rfl
set_option maxRecDepth 100000 in
theorem wd_1015 (hts : ∀ w ∈ lw_tbl, w.before args0 s0 = true) : mw_G s0 (Jvm.Cond.code ({ cls := "InodeDiskModel", name := "addSlot", desc := "(II)V" } : Jvm.MethodName) prog_10_method_27_code (6 : Nat) (Option.none : Option Jvm.ClassFile.FieldType)) := mw_of (Ts := tables_1_4) (sg_4 hts) 231 (by rfl) rfl
set_option maxRecDepth 100000 in
theorem wd_1019 (hts : ∀ w ∈ lw_tbl, w.before args0 s0 = true) : mw_G s0 (Jvm.Cond.code ({ cls := "InodeDiskModel", name := "makeDirectory", desc := "()I" } : Jvm.MethodName) prog_10_method_42_code (3 : Nat) (Option.some Jvm.ClassFile.FieldType.int)) := mw_of (Ts := tables_1_4) (sg_4 hts) 235 (by rfl) rfl
set_option maxRecDepth 100000 in
theorem wd_1023 (hts : ∀ w ∈ lw_tbl, w.before args0 s0 = true) : mw_G s0 (Jvm.Cond.code ({ cls := "InodeDiskModel", name := "addLinks", desc := "(II)V" } : Jvm.MethodName) prog_10_method_12_code (3 : Nat) (Option.none : Option Jvm.ClassFile.FieldType)) := mw_of (Ts := tables_1_4) (sg_4 hts) 239 (by rfl) rfl
set_option maxRecDepth 100000 in
theorem wd_1027 (hts : ∀ w ∈ lw_tbl, w.before args0 s0 = true) : mw_G s0 (Jvm.Cond.code ({ cls := "InodeDiskModel", name := "link", desc := "()I" } : Jvm.MethodName) prog_10_method_43_code (4 : Nat) (Option.some Jvm.ClassFile.FieldType.int)) := mw_of (Ts := tables_1_5) (sg_5 hts) 3 (by rfl) rfl
set_option maxRecDepth 100000 in
theorem wd_1031 (hts : ∀ w ∈ lw_tbl, w.before args0 s0 = true) : mw_G s0 (Jvm.Cond.code ({ cls := "InodeDiskModel", name := "found", desc := "(Z)I" } : Jvm.MethodName) prog_10_method_35_code (4 : Nat) (Option.some Jvm.ClassFile.FieldType.int)) := mw_of (Ts := tables_1_5) (sg_5 hts) 7 (by rfl) rfl
set_option maxRecDepth 100000 in
theorem wd_1035 (hts : ∀ w ∈ lw_tbl, w.before args0 s0 = true) : mw_G s0 (Jvm.Cond.code ({ cls := "InodeDiskModel", name := "unlink", desc := "()I" } : Jvm.MethodName) prog_10_method_44_code (4 : Nat) (Option.some Jvm.ClassFile.FieldType.int)) := mw_of (Ts := tables_1_5) (sg_5 hts) 11 (by rfl) rfl
set_option maxRecDepth 100000 in
theorem wd_1039 (hts : ∀ w ∈ lw_tbl, w.before args0 s0 = true) : mw_G s0 (Jvm.Cond.code ({ cls := "InodeDiskModel", name := "clearSlot", desc := "(II)V" } : Jvm.MethodName) prog_10_method_28_code (5 : Nat) (Option.none : Option Jvm.ClassFile.FieldType)) := mw_of (Ts := tables_1_5) (sg_5 hts) 15 (by rfl) rfl
set_option maxRecDepth 100000 in
theorem wd_1043 (hts : ∀ w ∈ lw_tbl, w.before args0 s0 = true) : mw_G s0 (Jvm.Cond.code ({ cls := "InodeDiskModel", name := "removeInode", desc := "(I)V" } : Jvm.MethodName) prog_10_method_19_code (3 : Nat) (Option.none : Option Jvm.ClassFile.FieldType)) := mw_of (Ts := tables_1_5) (sg_5 hts) 19 (by rfl) rfl
set_option maxRecDepth 100000 in
theorem wd_1047 (hts : ∀ w ∈ lw_tbl, w.before args0 s0 = true) : mw_G s0 (Jvm.Cond.code ({ cls := "InodeDiskModel", name := "dropFrom", desc := "(II)V" } : Jvm.MethodName) prog_10_method_18_code (6 : Nat) (Option.none : Option Jvm.ClassFile.FieldType)) := mw_of (Ts := tables_1_5) (sg_5 hts) 23 (by rfl) rfl
set_option maxRecDepth 100000 in
theorem wd_1051 (hts : ∀ w ∈ lw_tbl, w.before args0 s0 = true) : mw_G s0 (Jvm.Cond.code ({ cls := "InodeDiskModel", name := "drop", desc := "(II)V" } : Jvm.MethodName) prog_10_method_17_code (4 : Nat) (Option.none : Option Jvm.ClassFile.FieldType)) := mw_of (Ts := tables_1_5) (sg_5 hts) 27 (by rfl) rfl
set_option maxRecDepth 100000 in
theorem wd_1055 (hts : ∀ w ∈ lw_tbl, w.before args0 s0 = true) : mw_G s0 (Jvm.Cond.code ({ cls := "InodeDiskModel", name := "removeDirectory", desc := "()I" } : Jvm.MethodName) prog_10_method_46_code (5 : Nat) (Option.some Jvm.ClassFile.FieldType.int)) := mw_of (Ts := tables_1_5) (sg_5 hts) 31 (by rfl) rfl
set_option maxRecDepth 100000 in
theorem wd_1059 (hts : ∀ w ∈ lw_tbl, w.before args0 s0 = true) : mw_G s0 (Jvm.Cond.code ({ cls := "InodeDiskModel", name := "isFull", desc := "(I)Z" } : Jvm.MethodName) prog_10_method_45_code (3 : Nat) (Option.some Jvm.ClassFile.FieldType.boolean)) := mw_of (Ts := tables_1_5) (sg_5 hts) 35 (by rfl) rfl
set_option maxRecDepth 100000 in
theorem wd_1063 (hts : ∀ w ∈ lw_tbl, w.before args0 s0 = true) : mw_G s0 (Jvm.Cond.code ({ cls := "InodeDiskModel", name := "rename", desc := "()I" } : Jvm.MethodName) prog_10_method_48_code (6 : Nat) (Option.some Jvm.ClassFile.FieldType.int)) := mw_of (Ts := tables_1_5) (sg_5 hts) 39 (by rfl) rfl
set_option maxRecDepth 100000 in
theorem wd_1067 (hts : ∀ w ∈ lw_tbl, w.before args0 s0 = true) : mw_G s0 (Jvm.Cond.code ({ cls := "InodeDiskModel", name := "lies", desc := "(II)Z" } : Jvm.MethodName) prog_10_method_47_code (4 : Nat) (Option.some Jvm.ClassFile.FieldType.boolean)) := mw_of (Ts := tables_1_5) (sg_5 hts) 43 (by rfl) rfl
set_option maxRecDepth 100000 in
theorem wd_1071 (hts : ∀ w ∈ lw_tbl, w.before args0 s0 = true) : mw_G s0 (Jvm.Cond.code ({ cls := "InodeDiskModel", name := "write", desc := "(IIJ)I" } : Jvm.MethodName) prog_10_method_50_code (11 : Nat) (Option.some Jvm.ClassFile.FieldType.int)) := mw_of (Ts := tables_1_5) (sg_5 hts) 47 (by rfl) rfl
set_option maxRecDepth 100000 in
theorem wd_1075 (hts : ∀ w ∈ lw_tbl, w.before args0 s0 = true) : mw_G s0 (Jvm.Cond.code ({ cls := "InodeDiskModel", name := "pageNeeds", desc := "(II)I" } : Jvm.MethodName) prog_10_method_49_code (3 : Nat) (Option.some Jvm.ClassFile.FieldType.int)) := mw_of (Ts := tables_1_5) (sg_5 hts) 51 (by rfl) rfl
set_option maxRecDepth 100000 in
theorem wd_1080 (hts : ∀ w ∈ lw_tbl, w.before args0 s0 = true) : mw_G s0 (Jvm.Cond.code ({ cls := "InodeDiskModel", name := "read", desc := "(I)J" } : Jvm.MethodName) prog_10_method_51_code (7 : Nat) (Option.some Jvm.ClassFile.FieldType.long)) := mw_of (Ts := tables_1_5) (sg_5 hts) 56 (by rfl) rfl
set_option maxRecDepth 100000 in
theorem wd_1084 (hts : ∀ w ∈ lw_tbl, w.before args0 s0 = true) : mw_G s0 (Jvm.Cond.code ({ cls := "InodeDiskModel", name := "byteOf", desc := "(II)I" } : Jvm.MethodName) prog_10_method_15_code (4 : Nat) (Option.some Jvm.ClassFile.FieldType.int)) := mw_of (Ts := tables_1_5) (sg_5 hts) 60 (by rfl) rfl
set_option maxRecDepth 100000 in
theorem wd_1088 (hts : ∀ w ∈ lw_tbl, w.before args0 s0 = true) : mw_G s0 (Jvm.Cond.code ({ cls := "InodeDiskModel", name := "truncate", desc := "(I)I" } : Jvm.MethodName) prog_10_method_52_code (6 : Nat) (Option.some Jvm.ClassFile.FieldType.int)) := mw_of (Ts := tables_1_5) (sg_5 hts) 64 (by rfl) rfl
set_option maxRecDepth 100000 in
theorem wd_1092 (hts : ∀ w ∈ lw_tbl, w.before args0 s0 = true) : mw_G s0 (Jvm.Cond.code ({ cls := "InodeDiskModel", name := "stat", desc := "(I)I" } : Jvm.MethodName) prog_10_method_53_code (5 : Nat) (Option.some Jvm.ClassFile.FieldType.int)) := mw_of (Ts := tables_1_5) (sg_5 hts) 68 (by rfl) rfl
set_option maxRecDepth 100000 in
theorem wd_1096 (hts : ∀ w ∈ lw_tbl, w.before args0 s0 = true) : mw_G s0 (Jvm.Cond.code ({ cls := "InodeDiskModel", name := "spoil", desc := "(III)Z" } : Jvm.MethodName) prog_10_method_54_code (7 : Nat) (Option.some Jvm.ClassFile.FieldType.boolean)) := mw_of (Ts := tables_1_5) (sg_5 hts) 72 (by rfl) rfl
set_option maxRecDepth 100000 in
theorem wd_1100 (hts : ∀ w ∈ lw_tbl, w.before args0 s0 = true) : mw_G s0 (Jvm.Cond.code ({ cls := "InodeDiskModel", name := "check", desc := "(Z)I" } : Jvm.MethodName) prog_10_method_57_code (4 : Nat) (Option.some Jvm.ClassFile.FieldType.int)) := mw_of (Ts := tables_1_5) (sg_5 hts) 76 (by rfl) rfl
set_option maxRecDepth 100000 in
theorem wd_1104 (hts : ∀ w ∈ lw_tbl, w.before args0 s0 = true) : mw_G s0 (Jvm.Cond.code ({ cls := "InodeDiskModel", name := "walk", desc := "()V" } : Jvm.MethodName) prog_10_method_56_code (6 : Nat) (Option.none : Option Jvm.ClassFile.FieldType)) := mw_of (Ts := tables_1_5) (sg_5 hts) 80 (by rfl) rfl
set_option maxRecDepth 100000 in
theorem wd_1108 (hts : ∀ w ∈ lw_tbl, w.before args0 s0 = true) : mw_G s0 (Jvm.Cond.code ({ cls := "InodeDiskModel", name := "note", desc := "(I)Z" } : Jvm.MethodName) prog_10_method_55_code (3 : Nat) (Option.some Jvm.ClassFile.FieldType.boolean)) := mw_of (Ts := tables_1_5) (sg_5 hts) 84 (by rfl) rfl
set_option maxRecDepth 100000 in
theorem wd_1112 (hts : ∀ w ∈ lw_tbl, w.before args0 s0 = true) : mw_G s0 (Jvm.Cond.code ({ cls := "InodeDiskModel", name := "byteAt", desc := "(I)I" } : Jvm.MethodName) prog_10_method_58_code (2 : Nat) (Option.some Jvm.ClassFile.FieldType.int)) := mw_of (Ts := tables_1_5) (sg_5 hts) 88 (by rfl) rfl
set_option maxRecDepth 100000 in
theorem wd_1116 (hts : ∀ w ∈ lw_tbl, w.before args0 s0 = true) : mw_G s0 (Jvm.Cond.code ({ cls := "InodeDiskModel", name := "count", desc := "(I)I" } : Jvm.MethodName) prog_10_method_59_code (2 : Nat) (Option.some Jvm.ClassFile.FieldType.int)) := mw_of (Ts := tables_1_5) (sg_5 hts) 92 (by rfl) rfl
end MMF

def mm_strs : List (Nat × Nat) := [(149, 0), (171, 1), (180, 2), (189, 3), (195, 4), (200, 5), (209, 6), (230, 7), (238, 8), (246, 9), (276, 10), (283, 11), (286, 12), (291, 13), (296, 14), (298, 15), (300, 16)]
def mm_stas : List (Nat × Nat) := [(83, 0), (87, 1)]
def mm_excs : List (Nat × Nat) := [(285, 1), (151, 0), (173, 2), (182, 3)]
/-- what is known of the start: the tables' words; the classes' numbers and slots; where the constants lie -/
def mm_ctx (s0 : State) (args0 : Array Value) (D : va_G) (al : Nat → Nat) : Prop :=
  (∀ w ∈ lw_tbl, w.before args0 s0 = true) ∧ (∀ (ci : Nat) (r : vw_C), mm_cl[ci]? = some r → u_Kn s0 r.1 r.2.1 r.2.2 (D.1 ci) (D.2 ci)) ∧
  (∀ q ∈ mm_strs, ∀ (s : State) (args : Array Value), s0.WarmedH s.vm → ∃ text, (Cond.stringRef "InodeDisk" q.1 text).before args s = true ∧ (Term.string "InodeDisk" q.1).eval args s none [] s = some (.ref (al (100000 + q.2)))) ∧
  (∀ q ∈ mm_stas, ∀ (s : State) (args : Array Value), s0.WarmedH s.vm → mj_sta s0 al s args "InodeDisk$Directories" q.1 q.2) ∧
  ∀ q ∈ mm_excs, ∀ (s : State) (args : Array Value), s0.WarmedH s.vm → (∀ q : Nat, q < s0.heap.size → s.heap[q]? = s0.heap[q]?) → mj_exf mm_P s0 D mm_cl s args "InodeDisk" q.1 q.2
theorem me_0 : mm_P.1 0 = mm_0 := rfl
theorem me_1 : mm_P.1 1 = mm_1 := rfl
theorem me_2 : mm_P.1 2 = mm_2 := rfl
theorem me_3 : mm_P.1 3 = mm_3 := rfl
theorem me_4 : mm_P.1 4 = mm_4 := rfl
theorem me_5 : mm_P.1 5 = mm_5 := rfl
theorem me_6 : mm_P.1 6 = mm_6 := rfl
theorem me_7 : mm_P.1 7 = mm_7 := rfl
theorem me_8 : mm_P.1 8 = mm_8 := rfl
theorem me_9 : mm_P.1 9 = mm_9 := rfl
theorem me_10 : mm_P.1 10 = mm_10 := rfl
theorem me_11 : mm_P.1 11 = mm_11 := rfl
theorem me_12 : mm_P.1 12 = mm_12 := rfl
theorem me_13 : mm_P.1 13 = mm_13 := rfl
theorem me_14 : mm_P.1 14 = mm_14 := rfl
theorem me_15 : mm_P.1 15 = mm_15 := rfl
theorem me_16 : mm_P.1 16 = mm_16 := rfl
theorem me_17 : mm_P.1 17 = mm_17 := rfl
theorem me_18 : mm_P.1 18 = mm_18 := rfl
theorem me_19 : mm_P.1 19 = mm_19 := rfl
theorem me_20 : mm_P.1 20 = mm_20 := rfl
theorem me_21 : mm_P.1 21 = mm_21 := rfl
theorem me_22 : mm_P.1 22 = mm_22 := rfl
theorem me_23 : mm_P.1 23 = mm_23 := rfl
theorem me_24 : mm_P.1 24 = mm_24 := rfl
theorem me_25 : mm_P.1 25 = mm_25 := rfl
theorem me_26 : mm_P.1 26 = mm_26 := rfl
theorem me_27 : mm_P.1 27 = mm_27 := rfl
theorem me_28 : mm_P.1 28 = mm_28 := rfl
theorem me_29 : mm_P.1 29 = mm_29 := rfl
theorem me_30 : mm_P.1 30 = mm_30 := rfl
theorem me_31 : mm_P.1 31 = mm_31 := rfl
theorem me_32 : mm_P.1 32 = mm_32 := rfl
theorem me_33 : mm_P.1 33 = mm_33 := rfl
theorem me_34 : mm_P.1 34 = mm_34 := rfl
theorem me_35 : mm_P.1 35 = mm_35 := rfl
theorem me_36 : mm_P.1 36 = mm_36 := rfl
theorem me_37 : mm_P.1 37 = mm_37 := rfl
theorem me_38 : mm_P.1 38 = mm_38 := rfl
theorem me_39 : mm_P.1 39 = mm_39 := rfl
theorem me_40 : mm_P.1 40 = mm_40 := rfl
theorem me_41 : mm_P.1 41 = mm_41 := rfl
theorem me_42 : mm_P.1 42 = mm_42 := rfl
theorem me_43 : mm_P.1 43 = mm_43 := rfl
theorem me_44 : mm_P.1 44 = mm_44 := rfl
theorem me_45 : mm_P.1 45 = mm_45 := rfl
theorem me_46 : mm_P.1 46 = mm_46 := rfl
theorem me_47 : mm_P.1 47 = mm_47 := rfl
theorem me_48 : mm_P.1 48 = mm_48 := rfl
theorem me_49 : mm_P.1 49 = mm_49 := rfl
theorem me_50 : mm_P.1 50 = mm_50 := rfl
theorem me_51 : mm_P.1 51 = mm_51 := rfl
theorem me_52 : mm_P.1 52 = mm_52 := rfl
theorem me_53 : mm_P.1 53 = mm_53 := rfl
theorem me_54 : mm_P.1 54 = mm_54 := rfl
theorem me_55 : mm_P.1 55 = mm_55 := rfl
theorem me_56 : mm_P.1 56 = mm_56 := rfl
theorem me_57 : mm_P.1 57 = mm_57 := rfl
theorem me_58 : mm_P.1 58 = mm_58 := rfl
theorem me_59 : mm_P.1 59 = mm_59 := rfl
theorem me_60 : mm_P.1 60 = mm_60 := rfl
theorem me_61 : mm_P.1 61 = mm_61 := rfl
theorem me_62 : mm_P.1 62 = mm_62 := rfl
theorem me_63 : mm_P.1 63 = mm_63 := rfl
theorem me_64 : mm_P.1 64 = mm_64 := rfl
theorem me_65 : mm_P.1 65 = mm_65 := rfl
theorem me_66 : mm_P.1 66 = mm_66 := rfl
theorem me_67 : mm_P.1 67 = mm_67 := rfl
theorem me_68 : mm_P.1 68 = mm_68 := rfl
theorem me_69 : mm_P.1 69 = mm_69 := rfl
theorem me_70 : mm_P.1 70 = mm_70 := rfl
theorem me_71 : mm_P.1 71 = mm_71 := rfl
theorem me_72 : mm_P.1 72 = mm_72 := rfl
theorem me_73 : mm_P.1 73 = mm_73 := rfl
theorem me_74 : mm_P.1 74 = mm_74 := rfl
theorem me_75 : mm_P.1 75 = mm_75 := rfl
theorem me_76 : mm_P.1 76 = mm_76 := rfl
theorem me_77 : mm_P.1 77 = mm_77 := rfl
theorem me_78 : mm_P.1 78 = mm_78 := rfl
theorem me_79 : mm_P.1 79 = mm_79 := rfl
theorem me_80 : mm_P.1 80 = mm_80 := rfl
theorem me_81 : mm_P.1 81 = mm_81 := rfl
theorem me_82 : mm_P.1 82 = mm_82 := rfl
theorem me_83 : mm_P.1 83 = mm_83 := rfl
theorem me_84 : mm_P.1 84 = mm_84 := rfl
theorem me_85 : mm_P.1 85 = mm_85 := rfl
theorem me_86 : mm_P.1 86 = mm_86 := rfl
theorem me_87 : mm_P.1 87 = mm_87 := rfl
theorem me_88 : mm_P.1 88 = mm_88 := rfl
theorem me_89 : mm_P.1 89 = mm_89 := rfl
theorem me_90 : mm_P.1 90 = mm_90 := rfl
theorem me_91 : mm_P.1 91 = mm_91 := rfl
theorem me_92 : mm_P.1 92 = mm_92 := rfl
theorem me_93 : mm_P.1 93 = mm_93 := rfl
theorem me_94 : mm_P.1 94 = mm_94 := rfl
theorem me_95 : mm_P.1 95 = mm_95 := rfl
theorem me_96 : mm_P.1 96 = mm_96 := rfl
theorem me_97 : mm_P.1 97 = mm_97 := rfl
theorem me_98 : mm_P.1 98 = mm_98 := rfl
theorem me_99 : mm_P.1 99 = mm_99 := rfl
theorem me_100 : mm_P.1 100 = mm_100 := rfl
theorem me_101 : mm_P.1 101 = mm_101 := rfl
theorem me_102 : mm_P.1 102 = mm_102 := rfl
theorem me_103 : mm_P.1 103 = mm_103 := rfl
theorem me_104 : mm_P.1 104 = mm_104 := rfl
theorem me_105 : mm_P.1 105 = mm_105 := rfl
theorem me_106 : mm_P.1 106 = mm_106 := rfl
theorem me_107 : mm_P.1 107 = mm_107 := rfl
theorem me_108 : mm_P.1 108 = mm_108 := rfl
theorem me_109 : mm_P.1 109 = mm_109 := rfl
theorem me_110 : mm_P.1 110 = mm_110 := rfl
theorem me_111 : mm_P.1 111 = mm_111 := rfl
theorem me_112 : mm_P.1 112 = mm_112 := rfl
theorem me_113 : mm_P.1 113 = mm_113 := rfl
theorem me_114 : mm_P.1 114 = mm_114 := rfl
theorem me_115 : mm_P.1 115 = mm_115 := rfl
theorem me_116 : mm_P.1 116 = mm_116 := rfl
theorem me_117 : mm_P.1 117 = mm_117 := rfl
theorem me_118 : mm_P.1 118 = mm_118 := rfl
theorem me_119 : mm_P.1 119 = mm_119 := rfl
theorem me_120 : mm_P.1 120 = mm_120 := rfl
theorem me_121 : mm_P.1 121 = mm_121 := rfl
theorem me_122 : mm_P.1 122 = mm_122 := rfl
theorem me_123 : mm_P.1 123 = mm_123 := rfl
theorem me_124 : mm_P.1 124 = mm_124 := rfl
theorem me_125 : mm_P.1 125 = mm_125 := rfl
theorem me_126 : mm_P.1 126 = mm_126 := rfl
theorem me_127 : mm_P.1 127 = mm_127 := rfl
theorem me_128 : mm_P.1 128 = mm_128 := rfl
theorem me_129 : mm_P.1 129 = mm_129 := rfl
theorem me_130 : mm_P.1 130 = mm_130 := rfl
theorem me_131 : mm_P.1 131 = mm_131 := rfl
theorem me_132 : mm_P.1 132 = mm_132 := rfl
theorem me_133 : mm_P.1 133 = mm_133 := rfl
theorem me_134 : mm_P.1 134 = mm_134 := rfl
theorem me_135 : mm_P.1 135 = mm_135 := rfl
theorem me_136 : mm_P.1 136 = mm_136 := rfl
theorem me_137 : mm_P.1 137 = mm_137 := rfl
theorem me_138 : mm_P.1 138 = mm_138 := rfl
theorem me_139 : mm_P.1 139 = mm_139 := rfl
theorem me_140 : mm_P.1 140 = mm_140 := rfl
theorem me_141 : mm_P.1 141 = mm_141 := rfl
theorem me_142 : mm_P.1 142 = mm_142 := rfl
theorem me_143 : mm_P.1 143 = mm_143 := rfl
theorem me_144 : mm_P.1 144 = mm_144 := rfl
theorem me_145 : mm_P.1 145 = mm_145 := rfl
theorem me_146 : mm_P.1 146 = mm_146 := rfl
theorem me_147 : mm_P.1 147 = mm_147 := rfl
theorem me_148 : mm_P.1 148 = mm_148 := rfl
theorem me_149 : mm_P.1 149 = mm_149 := rfl
theorem me_150 : mm_P.1 150 = mm_150 := rfl
theorem me_151 : mm_P.1 151 = mm_151 := rfl
theorem me_152 : mm_P.1 152 = mm_152 := rfl
theorem me_153 : mm_P.1 153 = mm_153 := rfl
theorem me_154 : mm_P.1 154 = mm_154 := rfl
theorem me_155 : mm_P.1 155 = mm_155 := rfl
theorem me_156 : mm_P.1 156 = mm_156 := rfl
theorem me_157 : mm_P.1 157 = mm_157 := rfl
theorem me_158 : mm_P.1 158 = mm_158 := rfl
theorem me_159 : mm_P.1 159 = mm_159 := rfl
theorem me_160 : mm_P.1 160 = mm_160 := rfl
theorem me_161 : mm_P.1 161 = mm_161 := rfl
theorem me_162 : mm_P.1 162 = mm_162 := rfl
theorem me_163 : mm_P.1 163 = mm_163 := rfl
theorem me_164 : mm_P.1 164 = mm_164 := rfl
theorem me_165 : mm_P.1 165 = mm_165 := rfl
theorem me_166 : mm_P.1 166 = mm_166 := rfl
theorem me_167 : mm_P.1 167 = mm_167 := rfl
theorem me_168 : mm_P.1 168 = mm_168 := rfl
theorem me_169 : mm_P.1 169 = mm_169 := rfl
theorem me_170 : mm_P.1 170 = mm_170 := rfl
theorem me_171 : mm_P.1 171 = mm_171 := rfl
theorem me_172 : mm_P.1 172 = mm_172 := rfl
theorem me_173 : mm_P.1 173 = mm_173 := rfl
theorem me_174 : mm_P.1 174 = mm_174 := rfl
theorem me_175 : mm_P.1 175 = mm_175 := rfl
theorem me_176 : mm_P.1 176 = mm_176 := rfl
theorem mh_int (v : Value) (h : ((0 : Nat) = 0 ∧ ∃ x, v = .int x) ∨ ((0 : Nat) = 1 ∧ ∃ x, v = .ref x)) : narrow .int v = v ∧ fits .int v = true := by
  rcases h with ⟨-, x, rfl⟩ | ⟨h, -⟩
  · exact ⟨rfl, rfl⟩
  · cases h
theorem mh_obj {C : String} (v : Value) (h : ((1 : Nat) = 0 ∧ ∃ x, v = .int x) ∨ ((1 : Nat) = 1 ∧ ∃ x, v = .ref x)) : narrow (.object C) v = v ∧ fits (.object C) v = true := by
  rcases h with ⟨h, -⟩ | ⟨-, x, rfl⟩
  · cases h
  · exact ⟨rfl, rfl⟩
theorem mh_arr {t : FieldType} (v : Value) (h : ((1 : Nat) = 0 ∧ ∃ x, v = .int x) ∨ ((1 : Nat) = 1 ∧ ∃ x, v = .ref x)) : narrow (.array t) v = v ∧ fits (.array t) v = true := by
  rcases h with ⟨h, -⟩ | ⟨-, x, rfl⟩
  · cases h
  · exact ⟨rfl, rfl⟩
section MMF
variable {s0 : State} {args0 : Array Value} {D : va_G} {al : Nat → Nat}
theorem ml_4 (hts : ∀ w ∈ lw_tbl, w.before args0 s0 = true) : ∀ k, k < 10 → (Cond.lays "InodeDisk" (mj_fn mf_4 k).1 (mj_fn mf_4 k).2.1 (mj_fn mf_4 k).2.2.1).before args0 s0 = true ∨ (Cond.laysFinal "InodeDisk" (mj_fn mf_4 k).1 (mj_fn mf_4 k).2.1 (mj_fn mf_4 k).2.2.1).before args0 s0 = true :=
  fun k hk => u_lays hts (fun w hw => of_decide_eq_true (List.all_eq_true.mp (show (u_ws "InodeDisk" (mj_fn mf_4) 10).all (fun w => decide (w ∈ lw_tbl)) = true by decide +kernel) w hw)) hk
def mu_4 : Nat → FieldType := fun k => (([(.object "InodeDisk$Bytes"), (.object "InodeDisk$TakenMap"), (.object "InodeDisk$TakenMap"), (.object "InodeDisk$Inodes"), (.object "InodeDisk$Directories"), (.object "InodeDisk$Survey"), (.object "InodeDisk$Path"), (.object "InodeDisk$Path"), (.object "InodeDisk$Place"), (.object "InodeDisk$Place")] : List FieldType)[k]?).getD .int
theorem mv_4 : ∀ k, k < 10 → parseFieldDescriptor (mj_fn mf_4 k).2.2.1 = some (mu_4 k) := by decide +kernel
theorem md_4 (al : Nat → Nat) : ∀ k, k < 10 → defaultValue (mu_4 k) = vp_V ((mm_P.2.2.1 4).map (mj_lf al)) k := by
  have e : (mm_P.2.2.1 4).map (mj_lf al) = mm_P.2.2.1 4 := rfl
  rw [e]
  decide +kernel
theorem ml_5 (hts : ∀ w ∈ lw_tbl, w.before args0 s0 = true) : ∀ k, k < 1 → (Cond.lays "InodeDisk$Bytes" (mj_fn mf_5 k).1 (mj_fn mf_5 k).2.1 (mj_fn mf_5 k).2.2.1).before args0 s0 = true ∨ (Cond.laysFinal "InodeDisk$Bytes" (mj_fn mf_5 k).1 (mj_fn mf_5 k).2.1 (mj_fn mf_5 k).2.2.1).before args0 s0 = true :=
  fun k hk => u_lays hts (fun w hw => of_decide_eq_true (List.all_eq_true.mp (show (u_ws "InodeDisk$Bytes" (mj_fn mf_5) 1).all (fun w => decide (w ∈ lw_tbl)) = true by decide +kernel) w hw)) hk
def mu_5 : Nat → FieldType := fun k => (([(.array .byte)] : List FieldType)[k]?).getD .int
theorem mv_5 : ∀ k, k < 1 → parseFieldDescriptor (mj_fn mf_5 k).2.2.1 = some (mu_5 k) := by decide +kernel
theorem md_5 (al : Nat → Nat) : ∀ k, k < 1 → defaultValue (mu_5 k) = vp_V ((mm_P.2.2.1 5).map (mj_lf al)) k := by
  have e : (mm_P.2.2.1 5).map (mj_lf al) = mm_P.2.2.1 5 := rfl
  rw [e]
  decide +kernel
theorem ml_6 (hts : ∀ w ∈ lw_tbl, w.before args0 s0 = true) : ∀ k, k < 4 → (Cond.lays "InodeDisk$TakenMap" (mj_fn mf_6 k).1 (mj_fn mf_6 k).2.1 (mj_fn mf_6 k).2.2.1).before args0 s0 = true ∨ (Cond.laysFinal "InodeDisk$TakenMap" (mj_fn mf_6 k).1 (mj_fn mf_6 k).2.1 (mj_fn mf_6 k).2.2.1).before args0 s0 = true :=
  fun k hk => u_lays hts (fun w hw => of_decide_eq_true (List.all_eq_true.mp (show (u_ws "InodeDisk$TakenMap" (mj_fn mf_6) 4).all (fun w => decide (w ∈ lw_tbl)) = true by decide +kernel) w hw)) hk
def mu_6 : Nat → FieldType := fun k => (([(.object "InodeDisk$Bytes"), .int, .int, .int] : List FieldType)[k]?).getD .int
theorem mv_6 : ∀ k, k < 4 → parseFieldDescriptor (mj_fn mf_6 k).2.2.1 = some (mu_6 k) := by decide +kernel
theorem md_6 (al : Nat → Nat) : ∀ k, k < 4 → defaultValue (mu_6 k) = vp_V ((mm_P.2.2.1 6).map (mj_lf al)) k := by
  have e : (mm_P.2.2.1 6).map (mj_lf al) = mm_P.2.2.1 6 := rfl
  rw [e]
  decide +kernel
theorem ml_7 (hts : ∀ w ∈ lw_tbl, w.before args0 s0 = true) : ∀ k, k < 3 → (Cond.lays "InodeDisk$Inodes" (mj_fn mf_7 k).1 (mj_fn mf_7 k).2.1 (mj_fn mf_7 k).2.2.1).before args0 s0 = true ∨ (Cond.laysFinal "InodeDisk$Inodes" (mj_fn mf_7 k).1 (mj_fn mf_7 k).2.1 (mj_fn mf_7 k).2.2.1).before args0 s0 = true :=
  fun k hk => u_lays hts (fun w hw => of_decide_eq_true (List.all_eq_true.mp (show (u_ws "InodeDisk$Inodes" (mj_fn mf_7) 3).all (fun w => decide (w ∈ lw_tbl)) = true by decide +kernel) w hw)) hk
def mu_7 : Nat → FieldType := fun k => (([(.object "InodeDisk$Bytes"), (.object "InodeDisk$TakenMap"), (.object "InodeDisk$TakenMap")] : List FieldType)[k]?).getD .int
theorem mv_7 : ∀ k, k < 3 → parseFieldDescriptor (mj_fn mf_7 k).2.2.1 = some (mu_7 k) := by decide +kernel
theorem md_7 (al : Nat → Nat) : ∀ k, k < 3 → defaultValue (mu_7 k) = vp_V ((mm_P.2.2.1 7).map (mj_lf al)) k := by
  have e : (mm_P.2.2.1 7).map (mj_lf al) = mm_P.2.2.1 7 := rfl
  rw [e]
  decide +kernel
theorem ml_8 (hts : ∀ w ∈ lw_tbl, w.before args0 s0 = true) : ∀ k, k < 2 → (Cond.lays "InodeDisk$Directories" (mj_fn mf_8 k).1 (mj_fn mf_8 k).2.1 (mj_fn mf_8 k).2.2.1).before args0 s0 = true ∨ (Cond.laysFinal "InodeDisk$Directories" (mj_fn mf_8 k).1 (mj_fn mf_8 k).2.1 (mj_fn mf_8 k).2.2.1).before args0 s0 = true :=
  fun k hk => u_lays hts (fun w hw => of_decide_eq_true (List.all_eq_true.mp (show (u_ws "InodeDisk$Directories" (mj_fn mf_8) 2).all (fun w => decide (w ∈ lw_tbl)) = true by decide +kernel) w hw)) hk
def mu_8 : Nat → FieldType := fun k => (([(.object "InodeDisk$Bytes"), (.object "InodeDisk$Inodes")] : List FieldType)[k]?).getD .int
theorem mv_8 : ∀ k, k < 2 → parseFieldDescriptor (mj_fn mf_8 k).2.2.1 = some (mu_8 k) := by decide +kernel
theorem md_8 (al : Nat → Nat) : ∀ k, k < 2 → defaultValue (mu_8 k) = vp_V ((mm_P.2.2.1 8).map (mj_lf al)) k := by
  have e : (mm_P.2.2.1 8).map (mj_lf al) = mm_P.2.2.1 8 := rfl
  rw [e]
  decide +kernel
theorem ml_9 (hts : ∀ w ∈ lw_tbl, w.before args0 s0 = true) : ∀ k, k < 7 → (Cond.lays "InodeDisk$Survey" (mj_fn mf_9 k).1 (mj_fn mf_9 k).2.1 (mj_fn mf_9 k).2.2.1).before args0 s0 = true ∨ (Cond.laysFinal "InodeDisk$Survey" (mj_fn mf_9 k).1 (mj_fn mf_9 k).2.1 (mj_fn mf_9 k).2.2.1).before args0 s0 = true :=
  fun k hk => u_lays hts (fun w hw => of_decide_eq_true (List.all_eq_true.mp (show (u_ws "InodeDisk$Survey" (mj_fn mf_9) 7).all (fun w => decide (w ∈ lw_tbl)) = true by decide +kernel) w hw)) hk
def mu_9 : Nat → FieldType := fun k => (([(.object "InodeDisk$Inodes"), (.object "InodeDisk$Directories"), (.array .boolean), (.array .boolean), (.array .int), (.array .int), .int] : List FieldType)[k]?).getD .int
theorem mv_9 : ∀ k, k < 7 → parseFieldDescriptor (mj_fn mf_9 k).2.2.1 = some (mu_9 k) := by decide +kernel
theorem md_9 (al : Nat → Nat) : ∀ k, k < 7 → defaultValue (mu_9 k) = vp_V ((mm_P.2.2.1 9).map (mj_lf al)) k := by
  have e : (mm_P.2.2.1 9).map (mj_lf al) = mm_P.2.2.1 9 := rfl
  rw [e]
  decide +kernel
theorem ml_10 (hts : ∀ w ∈ lw_tbl, w.before args0 s0 = true) : ∀ k, k < 2 → (Cond.lays "InodeDisk$Path" (mj_fn mf_10 k).1 (mj_fn mf_10 k).2.1 (mj_fn mf_10 k).2.2.1).before args0 s0 = true ∨ (Cond.laysFinal "InodeDisk$Path" (mj_fn mf_10 k).1 (mj_fn mf_10 k).2.1 (mj_fn mf_10 k).2.2.1).before args0 s0 = true :=
  fun k hk => u_lays hts (fun w hw => of_decide_eq_true (List.all_eq_true.mp (show (u_ws "InodeDisk$Path" (mj_fn mf_10) 2).all (fun w => decide (w ∈ lw_tbl)) = true by decide +kernel) w hw)) hk
def mu_10 : Nat → FieldType := fun k => (([(.array .char), .int] : List FieldType)[k]?).getD .int
theorem mv_10 : ∀ k, k < 2 → parseFieldDescriptor (mj_fn mf_10 k).2.2.1 = some (mu_10 k) := by decide +kernel
theorem md_10 (al : Nat → Nat) : ∀ k, k < 2 → defaultValue (mu_10 k) = vp_V ((mm_P.2.2.1 10).map (mj_lf al)) k := by
  have e : (mm_P.2.2.1 10).map (mj_lf al) = mm_P.2.2.1 10 := rfl
  rw [e]
  decide +kernel
theorem ml_11 (hts : ∀ w ∈ lw_tbl, w.before args0 s0 = true) : ∀ k, k < 4 → (Cond.lays "InodeDisk$Place" (mj_fn mf_11 k).1 (mj_fn mf_11 k).2.1 (mj_fn mf_11 k).2.2.1).before args0 s0 = true ∨ (Cond.laysFinal "InodeDisk$Place" (mj_fn mf_11 k).1 (mj_fn mf_11 k).2.1 (mj_fn mf_11 k).2.2.1).before args0 s0 = true :=
  fun k hk => u_lays hts (fun w hw => of_decide_eq_true (List.all_eq_true.mp (show (u_ws "InodeDisk$Place" (mj_fn mf_11) 4).all (fun w => decide (w ∈ lw_tbl)) = true by decide +kernel) w hw)) hk
def mu_11 : Nat → FieldType := fun k => (([.int, .int, .int, (.array .byte)] : List FieldType)[k]?).getD .int
theorem mv_11 : ∀ k, k < 4 → parseFieldDescriptor (mj_fn mf_11 k).2.2.1 = some (mu_11 k) := by decide +kernel
theorem md_11 (al : Nat → Nat) : ∀ k, k < 4 → defaultValue (mu_11 k) = vp_V ((mm_P.2.2.1 11).map (mj_lf al)) k := by
  have e : (mm_P.2.2.1 11).map (mj_lf al) = mm_P.2.2.1 11 := rfl
  rw [e]
  decide +kernel
theorem ml_12 (hts : ∀ w ∈ lw_tbl, w.before args0 s0 = true) : ∀ k, k < 12 → (Cond.lays "InodeDiskModel" (mj_fn mf_12 k).1 (mj_fn mf_12 k).2.1 (mj_fn mf_12 k).2.2.1).before args0 s0 = true ∨ (Cond.laysFinal "InodeDiskModel" (mj_fn mf_12 k).1 (mj_fn mf_12 k).2.1 (mj_fn mf_12 k).2.2.1).before args0 s0 = true :=
  fun k hk => u_lays hts (fun w hw => of_decide_eq_true (List.all_eq_true.mp (show (u_ws "InodeDiskModel" (mj_fn mf_12) 12).all (fun w => decide (w ∈ lw_tbl)) = true by decide +kernel) w hw)) hk
def mu_12 : Nat → FieldType := fun k => (([(.array .int), .int, (.array .char), .int, (.array .char), .int, (.array .int), (.array .boolean), (.array .int), (.array .boolean), (.array .int), .int] : List FieldType)[k]?).getD .int
theorem mv_12 : ∀ k, k < 12 → parseFieldDescriptor (mj_fn mf_12 k).2.2.1 = some (mu_12 k) := by decide +kernel
theorem md_12 (al : Nat → Nat) : ∀ k, k < 12 → defaultValue (mu_12 k) = vp_V ((mm_P.2.2.1 12).map (mj_lf al)) k := by
  have e : (mm_P.2.2.1 12).map (mj_lf al) = mm_P.2.2.1 12 := rfl
  rw [e]
  decide +kernel
end MMF

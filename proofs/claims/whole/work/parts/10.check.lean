/-! the tables of the deep machine hold what the Statement's tables say -/
def dgw : List Cond := lw_tbl.filter goodWord
def dwsM (M : Nat) : List Cond := Cond.code (dy M) (dcode M) (dmaxL M) (dret M) :: dgw
def drm (M : Nat) : Room := { frames := dfrm M, cells := 0, slots := 0, locals := dlcl M }
/-- the word w stands at a place, and is kept -/
def dat (p : Nat) (w : Cond) : Bool := decide (lw_tbl[p]? = some w) && goodWord w
theorem dat_in {p : Nat} {w : Cond} (h : dat p w = true) : w ∈ dgw := by
  unfold dat at h
  simp only [Bool.and_eq_true, decide_eq_true_eq] at h
  exact List.mem_filter.mpr ⟨List.mem_of_getElem? h.1, h.2⟩
theorem dgw_good {w : Cond} (h : w ∈ dgw) : (w.onTables && w.keeps) = true ∨ ∃ ty, w = .arrayClass ty := good_of_word (List.mem_filter.mp h).2
def dmokN (M : Nat) : Bool := plainName (dy M).cls && decide ((dy M).cls ≠ "java/lang/invoke/MethodHandle" ∧ (dy M).cls ≠ "java/lang/invoke/VarHandle")
def dmokW (M : Nat) : Bool := dat (dpl4 M).2.2.2 (.initialized (dy M).cls)
def dmokA (M : Nat) : Bool := if (dpl4 M).1 = 1 then dat (dpl4 M).2.1 (.static (dy M)) && decide ((parseMethodDescriptor (dy M).desc).map (fun d => d.parameters.length) = some (dnar M))
  else dat (dpl4 M).2.1 (.instanceMethod (dy M)) && dat (dpl4 M).2.2.1 (.selects (dy M).cls (dy M) (dy M)) && decide ((parseMethodDescriptor (dy M).desc).map (fun d => d.parameters.length) = some (dnar M - 1)) && decide (1 ≤ dnar M)
def dmok (M : Nat) : Bool := dmokN M && dmokW M && dmokA M
def dlok (c : Nat) (e : Nat × Nat × Nat × Nat) : Bool := match e.2.1 with
  | 0 => dat e.2.2.2 (.methodLink (dcn c) e.1 (dy e.2.2.1)) && decide ((dpl4 e.2.2.1).1 = 0) && decide ((vwCl[dci e.2.2.1]?).map (fun q => q.1) = some (dy e.2.2.1).cls) && decide (2 ≤ e.2.2.1) && decide (e.2.2.1 < dlaw)
  | 1 => dat e.2.2.2 (.methodLink (dcn c) e.1 (dy e.2.2.1)) && decide ((dpl4 e.2.2.1).1 = 1) && decide (2 ≤ e.2.2.1) && decide (e.2.2.1 < dlaw)
  | 2 => decide ((c, e.1, e.2.2.1) ∈ dnest) && decide ((dpl4 e.2.2.1).1 = 1) && decide (2 ≤ e.2.2.1) && decide (e.2.2.1 < dlaw)
  | 3 => dat e.2.2.2 (.methodLink (dcn c) e.1 (dy e.2.2.1)) && decide ((dpl4 e.2.2.1).1 = 0) && decide (e.2.2.1 < 2)
  | 4 => dat e.2.2.2 (.methodLink (dcn c) e.1 arraycopyName)
  | 5 => dat e.2.2.2 (.methodLink (dcn c) e.1 Lib.Math.max.name)
  | _ => false
def dfok (c : Nat) (e : Nat × Nat × Nat × Nat) : Bool := match vwCl[e.2.1]? with
  | some (_, T, N) => decide (e.2.2.1 < N) && dat e.2.2.2 (.fieldLink (dcn c) e.1 (T e.2.2.1).1 (T e.2.2.1).2.1 (T e.2.2.1).2.2.1)
  | none => false
def dgok (c : Nat) (e : Nat × Int64 × Nat) : Bool := dat e.2.2 (.constantLong (dcn c) e.1 e.2.1)
def diok (c : Nat) (e : Nat × Int32 × Nat) : Bool := dat e.2.2 (.constant (dcn c) e.1 e.2.1)
def dall (a n : Nat) (p : Nat → Bool) : Bool := (List.range n).all (fun k => p (a + k))
theorem dall_at {a n : Nat} {p : Nat → Bool} (h : dall a n p = true) {k : Nat} (h1 : a ≤ k) (h2 : k < a + n) : p k = true := by
  have := List.all_eq_true.mp h (k - a) (List.mem_range.mpr (by omega))
  rwa [show a + (k - a) = k by omega] at this
set_option maxRecDepth 100000 in
theorem dmok_0 : dall 0 47 dmok = true := by decide +kernel
set_option maxRecDepth 100000 in
theorem dmok_1 : dall 47 47 dmok = true := by decide +kernel
set_option maxRecDepth 100000 in
theorem dmok_2 : dall 94 47 dmok = true := by decide +kernel
set_option maxRecDepth 100000 in
theorem dmok_3 : dall 141 45 dmok = true := by decide +kernel
theorem dmok_at {M : Nat} (h : M < dlaw) : dmok M = true := by
  unfold dlaw at h
  by_cases h0 : M < 47
  · exact dall_at dmok_0 (by omega) (by omega)
  by_cases h1 : M < 94
  · exact dall_at dmok_1 (by omega) (by omega)
  by_cases h2 : M < 141
  · exact dall_at dmok_2 (by omega) (by omega)
  exact dall_at dmok_3 (by omega) (by omega)
def dcwP (M : Nat) : Prop := lw_tbl[dcp M]? = some (.code (dy M) (dcode M) (dmaxL M) (dret M))
set_option maxRecDepth 100000 in
theorem dcw_0 : dcwP 0 := rfl
set_option maxRecDepth 100000 in
theorem dcw_1 : dcwP 1 := rfl
set_option maxRecDepth 100000 in
theorem dcw_2 : dcwP 2 := rfl
set_option maxRecDepth 100000 in
theorem dcw_3 : dcwP 3 := rfl
set_option maxRecDepth 100000 in
theorem dcw_4 : dcwP 4 := rfl
set_option maxRecDepth 100000 in
theorem dcw_5 : dcwP 5 := rfl
set_option maxRecDepth 100000 in
theorem dcw_6 : dcwP 6 := rfl
set_option maxRecDepth 100000 in
theorem dcw_7 : dcwP 7 := rfl
set_option maxRecDepth 100000 in
theorem dcw_8 : dcwP 8 := rfl
set_option maxRecDepth 100000 in
theorem dcw_9 : dcwP 9 := rfl
set_option maxRecDepth 100000 in
theorem dcw_10 : dcwP 10 := rfl
set_option maxRecDepth 100000 in
theorem dcw_11 : dcwP 11 := rfl
set_option maxRecDepth 100000 in
theorem dcw_12 : dcwP 12 := rfl
set_option maxRecDepth 100000 in
theorem dcw_13 : dcwP 13 := rfl
set_option maxRecDepth 100000 in
theorem dcw_14 : dcwP 14 := rfl
set_option maxRecDepth 100000 in
theorem dcw_15 : dcwP 15 := rfl
set_option maxRecDepth 100000 in
theorem dcw_16 : dcwP 16 := rfl
set_option maxRecDepth 100000 in
theorem dcw_17 : dcwP 17 := rfl
set_option maxRecDepth 100000 in
theorem dcw_18 : dcwP 18 := rfl
set_option maxRecDepth 100000 in
theorem dcw_19 : dcwP 19 := rfl
set_option maxRecDepth 100000 in
theorem dcw_20 : dcwP 20 := rfl
set_option maxRecDepth 100000 in
theorem dcw_21 : dcwP 21 := rfl
set_option maxRecDepth 100000 in
theorem dcw_22 : dcwP 22 := rfl
set_option maxRecDepth 100000 in
theorem dcw_23 : dcwP 23 := rfl
set_option maxRecDepth 100000 in
theorem dcw_24 : dcwP 24 := rfl
set_option maxRecDepth 100000 in
theorem dcw_25 : dcwP 25 := rfl
set_option maxRecDepth 100000 in
theorem dcw_26 : dcwP 26 := rfl
set_option maxRecDepth 100000 in
theorem dcw_27 : dcwP 27 := rfl
set_option maxRecDepth 100000 in
theorem dcw_28 : dcwP 28 := rfl
set_option maxRecDepth 100000 in
theorem dcw_29 : dcwP 29 := rfl
set_option maxRecDepth 100000 in
theorem dcw_30 : dcwP 30 := rfl
set_option maxRecDepth 100000 in
theorem dcw_31 : dcwP 31 := rfl
set_option maxRecDepth 100000 in
theorem dcw_32 : dcwP 32 := rfl
set_option maxRecDepth 100000 in
theorem dcw_33 : dcwP 33 := rfl
set_option maxRecDepth 100000 in
theorem dcw_34 : dcwP 34 := rfl
set_option maxRecDepth 100000 in
theorem dcw_35 : dcwP 35 := rfl
set_option maxRecDepth 100000 in
theorem dcw_36 : dcwP 36 := rfl
set_option maxRecDepth 100000 in
theorem dcw_37 : dcwP 37 := rfl
set_option maxRecDepth 100000 in
theorem dcw_38 : dcwP 38 := rfl
set_option maxRecDepth 100000 in
theorem dcw_39 : dcwP 39 := rfl
set_option maxRecDepth 100000 in
theorem dcw_40 : dcwP 40 := rfl
set_option maxRecDepth 100000 in
theorem dcw_41 : dcwP 41 := rfl
set_option maxRecDepth 100000 in
theorem dcw_42 : dcwP 42 := rfl
set_option maxRecDepth 100000 in
theorem dcw_43 : dcwP 43 := rfl
set_option maxRecDepth 100000 in
theorem dcw_44 : dcwP 44 := rfl
set_option maxRecDepth 100000 in
theorem dcw_45 : dcwP 45 := rfl
set_option maxRecDepth 100000 in
theorem dcw_46 : dcwP 46 := rfl
set_option maxRecDepth 100000 in
theorem dcw_47 : dcwP 47 := rfl
set_option maxRecDepth 100000 in
theorem dcw_48 : dcwP 48 := rfl
set_option maxRecDepth 100000 in
theorem dcw_49 : dcwP 49 := rfl
set_option maxRecDepth 100000 in
theorem dcw_50 : dcwP 50 := rfl
set_option maxRecDepth 100000 in
theorem dcw_51 : dcwP 51 := rfl
set_option maxRecDepth 100000 in
theorem dcw_52 : dcwP 52 := rfl
set_option maxRecDepth 100000 in
theorem dcw_53 : dcwP 53 := rfl
set_option maxRecDepth 100000 in
theorem dcw_54 : dcwP 54 := rfl
set_option maxRecDepth 100000 in
theorem dcw_55 : dcwP 55 := rfl
set_option maxRecDepth 100000 in
theorem dcw_56 : dcwP 56 := rfl
set_option maxRecDepth 100000 in
theorem dcw_57 : dcwP 57 := rfl
set_option maxRecDepth 100000 in
theorem dcw_58 : dcwP 58 := rfl
set_option maxRecDepth 100000 in
theorem dcw_59 : dcwP 59 := rfl
set_option maxRecDepth 100000 in
theorem dcw_60 : dcwP 60 := rfl
set_option maxRecDepth 100000 in
theorem dcw_61 : dcwP 61 := rfl
set_option maxRecDepth 100000 in
theorem dcw_62 : dcwP 62 := rfl
set_option maxRecDepth 100000 in
theorem dcw_63 : dcwP 63 := rfl
set_option maxRecDepth 100000 in
theorem dcw_64 : dcwP 64 := rfl
set_option maxRecDepth 100000 in
theorem dcw_65 : dcwP 65 := rfl
set_option maxRecDepth 100000 in
theorem dcw_66 : dcwP 66 := rfl
set_option maxRecDepth 100000 in
theorem dcw_67 : dcwP 67 := rfl
set_option maxRecDepth 100000 in
theorem dcw_68 : dcwP 68 := rfl
set_option maxRecDepth 100000 in
theorem dcw_69 : dcwP 69 := rfl
set_option maxRecDepth 100000 in
theorem dcw_70 : dcwP 70 := rfl
set_option maxRecDepth 100000 in
theorem dcw_71 : dcwP 71 := rfl
set_option maxRecDepth 100000 in
theorem dcw_72 : dcwP 72 := rfl
set_option maxRecDepth 100000 in
theorem dcw_73 : dcwP 73 := rfl
set_option maxRecDepth 100000 in
theorem dcw_74 : dcwP 74 := rfl
set_option maxRecDepth 100000 in
theorem dcw_75 : dcwP 75 := rfl
set_option maxRecDepth 100000 in
theorem dcw_76 : dcwP 76 := rfl
set_option maxRecDepth 100000 in
theorem dcw_77 : dcwP 77 := rfl
set_option maxRecDepth 100000 in
theorem dcw_78 : dcwP 78 := rfl
set_option maxRecDepth 100000 in
theorem dcw_79 : dcwP 79 := rfl
set_option maxRecDepth 100000 in
theorem dcw_80 : dcwP 80 := rfl
set_option maxRecDepth 100000 in
theorem dcw_81 : dcwP 81 := rfl
set_option maxRecDepth 100000 in
theorem dcw_82 : dcwP 82 := rfl
set_option maxRecDepth 100000 in
theorem dcw_83 : dcwP 83 := rfl
set_option maxRecDepth 100000 in
theorem dcw_84 : dcwP 84 := rfl
set_option maxRecDepth 100000 in
theorem dcw_85 : dcwP 85 := rfl
set_option maxRecDepth 100000 in
theorem dcw_86 : dcwP 86 := rfl
set_option maxRecDepth 100000 in
theorem dcw_87 : dcwP 87 := rfl
set_option maxRecDepth 100000 in
theorem dcw_88 : dcwP 88 := rfl
set_option maxRecDepth 100000 in
theorem dcw_89 : dcwP 89 := rfl
set_option maxRecDepth 100000 in
theorem dcw_90 : dcwP 90 := rfl
set_option maxRecDepth 100000 in
theorem dcw_91 : dcwP 91 := rfl
set_option maxRecDepth 100000 in
theorem dcw_92 : dcwP 92 := rfl
set_option maxRecDepth 100000 in
theorem dcw_93 : dcwP 93 := rfl
set_option maxRecDepth 100000 in
theorem dcw_94 : dcwP 94 := rfl
set_option maxRecDepth 100000 in
theorem dcw_95 : dcwP 95 := rfl
set_option maxRecDepth 100000 in
theorem dcw_96 : dcwP 96 := rfl
set_option maxRecDepth 100000 in
theorem dcw_97 : dcwP 97 := rfl
set_option maxRecDepth 100000 in
theorem dcw_98 : dcwP 98 := rfl
set_option maxRecDepth 100000 in
theorem dcw_99 : dcwP 99 := rfl
set_option maxRecDepth 100000 in
theorem dcw_100 : dcwP 100 := rfl
set_option maxRecDepth 100000 in
theorem dcw_101 : dcwP 101 := rfl
set_option maxRecDepth 100000 in
theorem dcw_102 : dcwP 102 := rfl
set_option maxRecDepth 100000 in
theorem dcw_103 : dcwP 103 := rfl
set_option maxRecDepth 100000 in
theorem dcw_104 : dcwP 104 := rfl
set_option maxRecDepth 100000 in
theorem dcw_105 : dcwP 105 := rfl
set_option maxRecDepth 100000 in
theorem dcw_106 : dcwP 106 := rfl
set_option maxRecDepth 100000 in
theorem dcw_107 : dcwP 107 := rfl
set_option maxRecDepth 100000 in
theorem dcw_108 : dcwP 108 := rfl
set_option maxRecDepth 100000 in
theorem dcw_109 : dcwP 109 := rfl
set_option maxRecDepth 100000 in
theorem dcw_110 : dcwP 110 := rfl
set_option maxRecDepth 100000 in
theorem dcw_111 : dcwP 111 := rfl
set_option maxRecDepth 100000 in
theorem dcw_112 : dcwP 112 := rfl
set_option maxRecDepth 100000 in
theorem dcw_113 : dcwP 113 := rfl
set_option maxRecDepth 100000 in
theorem dcw_114 : dcwP 114 := rfl
set_option maxRecDepth 100000 in
theorem dcw_115 : dcwP 115 := rfl
set_option maxRecDepth 100000 in
theorem dcw_116 : dcwP 116 := rfl
set_option maxRecDepth 100000 in
theorem dcw_117 : dcwP 117 := rfl
set_option maxRecDepth 100000 in
theorem dcw_118 : dcwP 118 := rfl
set_option maxRecDepth 100000 in
theorem dcw_119 : dcwP 119 := rfl
set_option maxRecDepth 100000 in
theorem dcw_120 : dcwP 120 := rfl
set_option maxRecDepth 100000 in
theorem dcw_121 : dcwP 121 := rfl
set_option maxRecDepth 100000 in
theorem dcw_122 : dcwP 122 := rfl
set_option maxRecDepth 100000 in
theorem dcw_123 : dcwP 123 := rfl
set_option maxRecDepth 100000 in
theorem dcw_124 : dcwP 124 := rfl
set_option maxRecDepth 100000 in
theorem dcw_125 : dcwP 125 := rfl
set_option maxRecDepth 100000 in
theorem dcw_126 : dcwP 126 := rfl
set_option maxRecDepth 100000 in
theorem dcw_127 : dcwP 127 := rfl
set_option maxRecDepth 100000 in
theorem dcw_128 : dcwP 128 := rfl
set_option maxRecDepth 100000 in
theorem dcw_129 : dcwP 129 := rfl
set_option maxRecDepth 100000 in
theorem dcw_130 : dcwP 130 := rfl
set_option maxRecDepth 100000 in
theorem dcw_131 : dcwP 131 := rfl
set_option maxRecDepth 100000 in
theorem dcw_132 : dcwP 132 := rfl
set_option maxRecDepth 100000 in
theorem dcw_133 : dcwP 133 := rfl
set_option maxRecDepth 100000 in
theorem dcw_134 : dcwP 134 := rfl
set_option maxRecDepth 100000 in
theorem dcw_135 : dcwP 135 := rfl
set_option maxRecDepth 100000 in
theorem dcw_136 : dcwP 136 := rfl
set_option maxRecDepth 100000 in
theorem dcw_137 : dcwP 137 := rfl
set_option maxRecDepth 100000 in
theorem dcw_138 : dcwP 138 := rfl
set_option maxRecDepth 100000 in
theorem dcw_139 : dcwP 139 := rfl
set_option maxRecDepth 100000 in
theorem dcw_140 : dcwP 140 := rfl
set_option maxRecDepth 100000 in
theorem dcw_141 : dcwP 141 := rfl
set_option maxRecDepth 100000 in
theorem dcw_142 : dcwP 142 := rfl
set_option maxRecDepth 100000 in
theorem dcw_143 : dcwP 143 := rfl
set_option maxRecDepth 100000 in
theorem dcw_144 : dcwP 144 := rfl
set_option maxRecDepth 100000 in
theorem dcw_145 : dcwP 145 := rfl
set_option maxRecDepth 100000 in
theorem dcw_146 : dcwP 146 := rfl
set_option maxRecDepth 100000 in
theorem dcw_147 : dcwP 147 := rfl
set_option maxRecDepth 100000 in
theorem dcw_148 : dcwP 148 := rfl
set_option maxRecDepth 100000 in
theorem dcw_149 : dcwP 149 := rfl
set_option maxRecDepth 100000 in
theorem dcw_150 : dcwP 150 := rfl
set_option maxRecDepth 100000 in
theorem dcw_151 : dcwP 151 := rfl
set_option maxRecDepth 100000 in
theorem dcw_152 : dcwP 152 := rfl
set_option maxRecDepth 100000 in
theorem dcw_153 : dcwP 153 := rfl
set_option maxRecDepth 100000 in
theorem dcw_154 : dcwP 154 := rfl
set_option maxRecDepth 100000 in
theorem dcw_155 : dcwP 155 := rfl
set_option maxRecDepth 100000 in
theorem dcw_156 : dcwP 156 := rfl
set_option maxRecDepth 100000 in
theorem dcw_157 : dcwP 157 := rfl
set_option maxRecDepth 100000 in
theorem dcw_158 : dcwP 158 := rfl
set_option maxRecDepth 100000 in
theorem dcw_159 : dcwP 159 := rfl
set_option maxRecDepth 100000 in
theorem dcw_160 : dcwP 160 := rfl
set_option maxRecDepth 100000 in
theorem dcw_161 : dcwP 161 := rfl
set_option maxRecDepth 100000 in
theorem dcw_162 : dcwP 162 := rfl
set_option maxRecDepth 100000 in
theorem dcw_163 : dcwP 163 := rfl
set_option maxRecDepth 100000 in
theorem dcw_164 : dcwP 164 := rfl
set_option maxRecDepth 100000 in
theorem dcw_165 : dcwP 165 := rfl
set_option maxRecDepth 100000 in
theorem dcw_166 : dcwP 166 := rfl
set_option maxRecDepth 100000 in
theorem dcw_167 : dcwP 167 := rfl
set_option maxRecDepth 100000 in
theorem dcw_168 : dcwP 168 := rfl
set_option maxRecDepth 100000 in
theorem dcw_169 : dcwP 169 := rfl
set_option maxRecDepth 100000 in
theorem dcw_170 : dcwP 170 := rfl
set_option maxRecDepth 100000 in
theorem dcw_171 : dcwP 171 := rfl
set_option maxRecDepth 100000 in
theorem dcw_172 : dcwP 172 := rfl
set_option maxRecDepth 100000 in
theorem dcw_173 : dcwP 173 := rfl
set_option maxRecDepth 100000 in
theorem dcw_174 : dcwP 174 := rfl
set_option maxRecDepth 100000 in
theorem dcw_175 : dcwP 175 := rfl
set_option maxRecDepth 100000 in
theorem dcw_176 : dcwP 176 := rfl
set_option maxRecDepth 100000 in
theorem dcw_177 : dcwP 177 := rfl
set_option maxRecDepth 100000 in
theorem dcw_178 : dcwP 178 := rfl
set_option maxRecDepth 100000 in
theorem dcw_179 : dcwP 179 := rfl
set_option maxRecDepth 100000 in
theorem dcw_180 : dcwP 180 := rfl
set_option maxRecDepth 100000 in
theorem dcw_181 : dcwP 181 := rfl
set_option maxRecDepth 100000 in
theorem dcw_182 : dcwP 182 := rfl
set_option maxRecDepth 100000 in
theorem dcw_183 : dcwP 183 := rfl
set_option maxRecDepth 100000 in
theorem dcw_184 : dcwP 184 := rfl
set_option maxRecDepth 100000 in
theorem dcw_185 : dcwP 185 := rfl
theorem dcwc_0 : ∀ k, k < 24 → dcwP (0 + k) := by
  intro k h
  match k, h with
  | 0, _ => exact dcw_0
  | 1, _ => exact dcw_1
  | 2, _ => exact dcw_2
  | 3, _ => exact dcw_3
  | 4, _ => exact dcw_4
  | 5, _ => exact dcw_5
  | 6, _ => exact dcw_6
  | 7, _ => exact dcw_7
  | 8, _ => exact dcw_8
  | 9, _ => exact dcw_9
  | 10, _ => exact dcw_10
  | 11, _ => exact dcw_11
  | 12, _ => exact dcw_12
  | 13, _ => exact dcw_13
  | 14, _ => exact dcw_14
  | 15, _ => exact dcw_15
  | 16, _ => exact dcw_16
  | 17, _ => exact dcw_17
  | 18, _ => exact dcw_18
  | 19, _ => exact dcw_19
  | 20, _ => exact dcw_20
  | 21, _ => exact dcw_21
  | 22, _ => exact dcw_22
  | 23, _ => exact dcw_23
  | k + 24, h => exact absurd h (by omega)
theorem dcwc_1 : ∀ k, k < 24 → dcwP (24 + k) := by
  intro k h
  match k, h with
  | 0, _ => exact dcw_24
  | 1, _ => exact dcw_25
  | 2, _ => exact dcw_26
  | 3, _ => exact dcw_27
  | 4, _ => exact dcw_28
  | 5, _ => exact dcw_29
  | 6, _ => exact dcw_30
  | 7, _ => exact dcw_31
  | 8, _ => exact dcw_32
  | 9, _ => exact dcw_33
  | 10, _ => exact dcw_34
  | 11, _ => exact dcw_35
  | 12, _ => exact dcw_36
  | 13, _ => exact dcw_37
  | 14, _ => exact dcw_38
  | 15, _ => exact dcw_39
  | 16, _ => exact dcw_40
  | 17, _ => exact dcw_41
  | 18, _ => exact dcw_42
  | 19, _ => exact dcw_43
  | 20, _ => exact dcw_44
  | 21, _ => exact dcw_45
  | 22, _ => exact dcw_46
  | 23, _ => exact dcw_47
  | k + 24, h => exact absurd h (by omega)
theorem dcwc_2 : ∀ k, k < 24 → dcwP (48 + k) := by
  intro k h
  match k, h with
  | 0, _ => exact dcw_48
  | 1, _ => exact dcw_49
  | 2, _ => exact dcw_50
  | 3, _ => exact dcw_51
  | 4, _ => exact dcw_52
  | 5, _ => exact dcw_53
  | 6, _ => exact dcw_54
  | 7, _ => exact dcw_55
  | 8, _ => exact dcw_56
  | 9, _ => exact dcw_57
  | 10, _ => exact dcw_58
  | 11, _ => exact dcw_59
  | 12, _ => exact dcw_60
  | 13, _ => exact dcw_61
  | 14, _ => exact dcw_62
  | 15, _ => exact dcw_63
  | 16, _ => exact dcw_64
  | 17, _ => exact dcw_65
  | 18, _ => exact dcw_66
  | 19, _ => exact dcw_67
  | 20, _ => exact dcw_68
  | 21, _ => exact dcw_69
  | 22, _ => exact dcw_70
  | 23, _ => exact dcw_71
  | k + 24, h => exact absurd h (by omega)
theorem dcwc_3 : ∀ k, k < 24 → dcwP (72 + k) := by
  intro k h
  match k, h with
  | 0, _ => exact dcw_72
  | 1, _ => exact dcw_73
  | 2, _ => exact dcw_74
  | 3, _ => exact dcw_75
  | 4, _ => exact dcw_76
  | 5, _ => exact dcw_77
  | 6, _ => exact dcw_78
  | 7, _ => exact dcw_79
  | 8, _ => exact dcw_80
  | 9, _ => exact dcw_81
  | 10, _ => exact dcw_82
  | 11, _ => exact dcw_83
  | 12, _ => exact dcw_84
  | 13, _ => exact dcw_85
  | 14, _ => exact dcw_86
  | 15, _ => exact dcw_87
  | 16, _ => exact dcw_88
  | 17, _ => exact dcw_89
  | 18, _ => exact dcw_90
  | 19, _ => exact dcw_91
  | 20, _ => exact dcw_92
  | 21, _ => exact dcw_93
  | 22, _ => exact dcw_94
  | 23, _ => exact dcw_95
  | k + 24, h => exact absurd h (by omega)
theorem dcwc_4 : ∀ k, k < 24 → dcwP (96 + k) := by
  intro k h
  match k, h with
  | 0, _ => exact dcw_96
  | 1, _ => exact dcw_97
  | 2, _ => exact dcw_98
  | 3, _ => exact dcw_99
  | 4, _ => exact dcw_100
  | 5, _ => exact dcw_101
  | 6, _ => exact dcw_102
  | 7, _ => exact dcw_103
  | 8, _ => exact dcw_104
  | 9, _ => exact dcw_105
  | 10, _ => exact dcw_106
  | 11, _ => exact dcw_107
  | 12, _ => exact dcw_108
  | 13, _ => exact dcw_109
  | 14, _ => exact dcw_110
  | 15, _ => exact dcw_111
  | 16, _ => exact dcw_112
  | 17, _ => exact dcw_113
  | 18, _ => exact dcw_114
  | 19, _ => exact dcw_115
  | 20, _ => exact dcw_116
  | 21, _ => exact dcw_117
  | 22, _ => exact dcw_118
  | 23, _ => exact dcw_119
  | k + 24, h => exact absurd h (by omega)
theorem dcwc_5 : ∀ k, k < 24 → dcwP (120 + k) := by
  intro k h
  match k, h with
  | 0, _ => exact dcw_120
  | 1, _ => exact dcw_121
  | 2, _ => exact dcw_122
  | 3, _ => exact dcw_123
  | 4, _ => exact dcw_124
  | 5, _ => exact dcw_125
  | 6, _ => exact dcw_126
  | 7, _ => exact dcw_127
  | 8, _ => exact dcw_128
  | 9, _ => exact dcw_129
  | 10, _ => exact dcw_130
  | 11, _ => exact dcw_131
  | 12, _ => exact dcw_132
  | 13, _ => exact dcw_133
  | 14, _ => exact dcw_134
  | 15, _ => exact dcw_135
  | 16, _ => exact dcw_136
  | 17, _ => exact dcw_137
  | 18, _ => exact dcw_138
  | 19, _ => exact dcw_139
  | 20, _ => exact dcw_140
  | 21, _ => exact dcw_141
  | 22, _ => exact dcw_142
  | 23, _ => exact dcw_143
  | k + 24, h => exact absurd h (by omega)
theorem dcwc_6 : ∀ k, k < 24 → dcwP (144 + k) := by
  intro k h
  match k, h with
  | 0, _ => exact dcw_144
  | 1, _ => exact dcw_145
  | 2, _ => exact dcw_146
  | 3, _ => exact dcw_147
  | 4, _ => exact dcw_148
  | 5, _ => exact dcw_149
  | 6, _ => exact dcw_150
  | 7, _ => exact dcw_151
  | 8, _ => exact dcw_152
  | 9, _ => exact dcw_153
  | 10, _ => exact dcw_154
  | 11, _ => exact dcw_155
  | 12, _ => exact dcw_156
  | 13, _ => exact dcw_157
  | 14, _ => exact dcw_158
  | 15, _ => exact dcw_159
  | 16, _ => exact dcw_160
  | 17, _ => exact dcw_161
  | 18, _ => exact dcw_162
  | 19, _ => exact dcw_163
  | 20, _ => exact dcw_164
  | 21, _ => exact dcw_165
  | 22, _ => exact dcw_166
  | 23, _ => exact dcw_167
  | k + 24, h => exact absurd h (by omega)
theorem dcwc_7 : ∀ k, k < 18 → dcwP (168 + k) := by
  intro k h
  match k, h with
  | 0, _ => exact dcw_168
  | 1, _ => exact dcw_169
  | 2, _ => exact dcw_170
  | 3, _ => exact dcw_171
  | 4, _ => exact dcw_172
  | 5, _ => exact dcw_173
  | 6, _ => exact dcw_174
  | 7, _ => exact dcw_175
  | 8, _ => exact dcw_176
  | 9, _ => exact dcw_177
  | 10, _ => exact dcw_178
  | 11, _ => exact dcw_179
  | 12, _ => exact dcw_180
  | 13, _ => exact dcw_181
  | 14, _ => exact dcw_182
  | 15, _ => exact dcw_183
  | 16, _ => exact dcw_184
  | 17, _ => exact dcw_185
  | k + 18, h => exact absurd h (by omega)
theorem dcw_at {M : Nat} (h : M < dlaw) : dcwP M := by
  unfold dlaw at h
  by_cases h0 : M < 24
  · have q := dcwc_0 (M - 0) (by omega)
    rwa [show 0 + (M - 0) = M by omega] at q
  by_cases h1 : M < 48
  · have q := dcwc_1 (M - 24) (by omega)
    rwa [show 24 + (M - 24) = M by omega] at q
  by_cases h2 : M < 72
  · have q := dcwc_2 (M - 48) (by omega)
    rwa [show 48 + (M - 48) = M by omega] at q
  by_cases h3 : M < 96
  · have q := dcwc_3 (M - 72) (by omega)
    rwa [show 72 + (M - 72) = M by omega] at q
  by_cases h4 : M < 120
  · have q := dcwc_4 (M - 96) (by omega)
    rwa [show 96 + (M - 96) = M by omega] at q
  by_cases h5 : M < 144
  · have q := dcwc_5 (M - 120) (by omega)
    rwa [show 120 + (M - 120) = M by omega] at q
  by_cases h6 : M < 168
  · have q := dcwc_6 (M - 144) (by omega)
    rwa [show 144 + (M - 144) = M by omega] at q
  have q := dcwc_7 (M - 168) (by omega)
  rwa [show 168 + (M - 168) = M by omega] at q
set_option maxRecDepth 100000 in
theorem dlok_all : (List.range 12).all (fun c => (dlnk.getD c []).all (dlok c)) = true := by decide +kernel
set_option maxRecDepth 100000 in
theorem dfok_all : (List.range 12).all (fun c => (dflT.getD c []).all (dfok c)) = true := by decide +kernel
set_option maxRecDepth 100000 in
theorem dgok_all : (List.range 12).all (fun c => (dlgT.getD c []).all (dgok c)) = true := by decide +kernel
set_option maxRecDepth 100000 in
theorem diok_all : (List.range 12).all (fun c => (ditT.getD c []).all (diok c)) = true := by decide +kernel
set_option maxRecDepth 100000 in
theorem dacl_ok : dat dacl.1 (.native arraycopyName) = true ∧ dat dacl.2.1 (.static arraycopyName) = true ∧ dat dacl.2.2 (.initialized "java/lang/System") = true := by decide +kernel
set_option maxRecDepth 100000 in
theorem dmxl_ok : dat dmxl.1 (.static Lib.Math.max.name) = true ∧ dat dmxl.2.1 (.initialized "java/lang/Math") = true := by decide +kernel
set_option maxRecDepth 100000 in
theorem dmxl_code : lw_tbl[dmxl.2.2]? = some (.code Lib.Math.max.name Lib.Math.max.code 2 (some .int)) := by first | rfl | decide +kernel
theorem dtab_find {α : Type} {ls : List (List (Nat × α))} {ok : Nat → (Nat × α) → Bool} (hall : (List.range 12).all (fun c => (ls.getD c []).all (ok c)) = true) (hlen : ls.length = 12) {c i : Nat} {v : α} (h : ((ls.getD c []).find? (fun e => e.1 == i)).map (fun e => e.2) = some v) : ok c (i, v) = true := by
  obtain ⟨e, h1, h2⟩ := Option.map_eq_some_iff.mp h
  have hm := List.mem_of_find?_eq_some h1
  have hp := List.find?_some h1
  have hc : c < 12 := by
    rcases Nat.lt_or_ge c 12 with q | q
    · exact q
    · rw [List.getD_eq_getElem?_getD, List.getElem?_eq_none (by omega)] at hm
      cases hm
  have := List.all_eq_true.mp (List.all_eq_true.mp hall c (List.mem_range.mpr hc)) e hm
  have e1 : e.1 = i := eq_of_beq hp
  rw [← e1, ← h2]
  exact this
theorem dlink_ok {c i : Nat} {v : Nat × Nat × Nat} (h : dlink c i = some v) : dlok c (i, v) = true := dtab_find dlok_all rfl h
theorem dfld_ok {c i : Nat} {v : Nat × Nat × Nat} (h : dfld c i = some v) : dfok c (i, v) = true := dtab_find dfok_all rfl h
theorem dlg_ok {c i : Nat} {v : Int64 × Nat} (h : dlg c i = some v) : dgok c (i, v) = true := dtab_find dgok_all rfl h
theorem dit_ok {c i : Nat} {v : Int32 × Nat} (h : dit c i = some v) : diok c (i, v) = true := dtab_find diok_all rfl h
/-- the classes' own words -/
def dlayT (ci : Nat) : Bool := match vwCl[ci]? with
  | some (C, T, N) => (List.range N).all (fun k => decide (u_lay C T k ∈ lw_tbl) && goodWord (u_lay C T k))
  | none => true
set_option maxRecDepth 100000 in
theorem dlay_all : (List.range 7).all dlayT = true := by decide +kernel
theorem dlay_in {ci N : Nat} {C : String} {T : u_T} (h : vwCl[ci]? = some (C, T, N)) : ∀ w ∈ u_ws C T N, w ∈ dgw := by
  intro w hw
  obtain ⟨k, hk, rfl⟩ := List.mem_map.mp hw
  have hc : ci < 7 := (List.getElem?_eq_some_iff.mp h).1
  have h1 := List.all_eq_true.mp dlay_all ci (List.mem_range.mpr hc)
  unfold dlayT at h1
  rw [h] at h1
  have h2 := List.all_eq_true.mp h1 k hk
  simp only [Bool.and_eq_true, decide_eq_true_eq] at h2
  exact List.mem_filter.mpr h2
theorem dnm_all {ci N : Nat} {C : String} {T : u_T} (h : vwCl[ci]? = some (C, T, N)) : (∀ a, a < N → ∀ b, b < N → a ≠ b → (T a).2.1 ≠ (T b).2.1) ∧ ∃ ty0 : Nat → FieldType, ∀ k, k < N → parseFieldDescriptor (T k).2.2.1 = some (ty0 k) := by
  match ci, h with
  | 0, h => cases h; exact ⟨nmX0, tyX0, tyX0_ok⟩
  | 1, h => cases h; exact ⟨nmX2, tyX2, tyX2_ok⟩
  | 2, h => cases h; exact ⟨nmX3, tyX3, tyX3_ok⟩
  | 3, h => cases h; exact ⟨nmX4, tyX4, tyX4_ok⟩
  | 4, h => cases h; exact ⟨nmX5, tyX5, tyX5_ok⟩
  | 5, h => cases h; exact ⟨nmX6, tyX6, tyX6_ok⟩
  | 6, h => cases h; exact ⟨nmX7, tyX7, tyX7_ok⟩
  | k + 7, h => cases h

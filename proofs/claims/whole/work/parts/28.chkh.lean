/-! THE LOOKING UP itself: the methods that are called -/
theorem xmf_by {Y : xY} {M : xM} {a np kd : Nat} {ps : List Nat} (h1 : decide (((Y a).1.cls ≠ "java/lang/invoke/MethodHandle" ∧ (Y a).1.cls ≠ "java/lang/invoke/VarHandle") ∧ (parseMethodDescriptor (Y a).1.desc).map (fun d => d.parameters.length) = some np ∧ (Y a).2.2.1 ≤ 45 ∧ plainName (Y a).1.cls = true ∧ (M a).1 ≤ np + 1 ∧ (M a).2.2 = (Y a).2.2.1) = true) (h2 : (xch (ps.getD 0 0 / 1000))[ps.getD 0 0 % 1000]? = some (xwc Y a)) (h3 : xat1 (ps.getD 1 0) (Cond.initialized (Y a).1.cls) = true)
    (h4 : (match kd with
      | 0 => xat1 (ps.getD 2 0) (Cond.static (Y a).1) && decide ((M a).1 = np)
      | 1 => xat1 (ps.getD 2 0) (Cond.instanceMethod (Y a).1) && (xat1 (ps.getD 3 0) (Cond.selects (Y a).1.cls (Y a).1 (Y a).1) && decide ((M a).1 = np + 1 ∧ ((M a).2.1 < 13 → (Y a).1.cls = xRR (M a).2.1) ∧ (13 ≤ (M a).2.1 → (Y a).1.cls = "java/lang/String")))
      | _ => xat1 (ps.getD 2 0) (Cond.instanceMethod (Y a).1) && decide ((Y a).1.name = "<init>" ∧ (Y a).2.2.2 = none ∧ (M a).1 = np + 1)) = true) : xmf Y M a np kd ps = true := by
  unfold xmf
  rw [h1, h3, show xat1 (ps.getD 0 0) (xwc Y a) = true from decide_eq_true h2]
  simp only [Bool.true_and]
  match kd, h4 with
  | 0, h4 => exact h4
  | 1, h4 => exact h4
  | _ + 2, h4 => exact h4
theorem xm_1 : xmfb 1 = true := xmf_by (by decide +kernel) rfl (by decide +kernel) (by decide +kernel)
theorem xm_2 : xmfb 2 = true := xmf_by (by decide +kernel) rfl (by decide +kernel) (by decide +kernel)
theorem xm_3 : xmfb 3 = true := xmf_by (by decide +kernel) rfl (by decide +kernel) (by decide +kernel)
theorem xm_4 : xmfb 4 = true := xmf_by (by decide +kernel) rfl (by decide +kernel) (by decide +kernel)
theorem xm_5 : xmfb 5 = true := xmf_by (by decide +kernel) rfl (by decide +kernel) (by decide +kernel)
theorem xm_6 : xmfb 6 = true := xmf_by (by decide +kernel) rfl (by decide +kernel) (by decide +kernel)
theorem xm_7 : xmfb 7 = true := xmf_by (by decide +kernel) rfl (by decide +kernel) (by decide +kernel)
theorem xm_8 : xmfb 8 = true := xmf_by (by decide +kernel) rfl (by decide +kernel) (by decide +kernel)
theorem xm_9 : xmfb 9 = true := xmf_by (by decide +kernel) rfl (by decide +kernel) (by decide +kernel)
theorem xm_10 : xmfb 10 = true := xmf_by (by decide +kernel) rfl (by decide +kernel) (by decide +kernel)
theorem xm_11 : xmfb 11 = true := xmf_by (by decide +kernel) rfl (by decide +kernel) (by decide +kernel)
theorem xm_12 : xmfb 12 = true := xmf_by (by decide +kernel) rfl (by decide +kernel) (by decide +kernel)
theorem xm_13 : xmfb 13 = true := xmf_by (by decide +kernel) rfl (by decide +kernel) (by decide +kernel)
theorem xm_14 : xmfb 14 = true := xmf_by (by decide +kernel) rfl (by decide +kernel) (by decide +kernel)
theorem xm_15 : xmfb 15 = true := xmf_by (by decide +kernel) rfl (by decide +kernel) (by decide +kernel)
theorem xm_16 : xmfb 16 = true := xmf_by (by decide +kernel) rfl (by decide +kernel) (by decide +kernel)
theorem xm_17 : xmfb 17 = true := xmf_by (by decide +kernel) rfl (by decide +kernel) (by decide +kernel)
theorem xm_18 : xmfb 18 = true := xmf_by (by decide +kernel) rfl (by decide +kernel) (by decide +kernel)
theorem xm_19 : xmfb 19 = true := xmf_by (by decide +kernel) rfl (by decide +kernel) (by decide +kernel)
theorem xm_20 : xmfb 20 = true := xmf_by (by decide +kernel) rfl (by decide +kernel) (by decide +kernel)
theorem xm_21 : xmfb 21 = true := xmf_by (by decide +kernel) rfl (by decide +kernel) (by decide +kernel)
theorem xm_22 : xmfb 22 = true := xmf_by (by decide +kernel) rfl (by decide +kernel) (by decide +kernel)
theorem xm_23 : xmfb 23 = true := xmf_by (by decide +kernel) rfl (by decide +kernel) (by decide +kernel)
theorem xm_24 : xmfb 24 = true := xmf_by (by decide +kernel) rfl (by decide +kernel) (by decide +kernel)
theorem xm_25 : xmfb 25 = true := xmf_by (by decide +kernel) rfl (by decide +kernel) (by decide +kernel)
theorem xm_26 : xmfb 26 = true := xmf_by (by decide +kernel) rfl (by decide +kernel) (by decide +kernel)
theorem xm_27 : xmfb 27 = true := xmf_by (by decide +kernel) rfl (by decide +kernel) (by decide +kernel)
theorem xm_28 : xmfb 28 = true := xmf_by (by decide +kernel) rfl (by decide +kernel) (by decide +kernel)
theorem xm_29 : xmfb 29 = true := xmf_by (by decide +kernel) rfl (by decide +kernel) (by decide +kernel)
theorem xm_30 : xmfb 30 = true := xmf_by (by decide +kernel) rfl (by decide +kernel) (by decide +kernel)
theorem xm_31 : xmfb 31 = true := xmf_by (by decide +kernel) rfl (by decide +kernel) (by decide +kernel)
theorem xm_32 : xmfb 32 = true := xmf_by (by decide +kernel) rfl (by decide +kernel) (by decide +kernel)
theorem xm_33 : xmfb 33 = true := xmf_by (by decide +kernel) rfl (by decide +kernel) (by decide +kernel)
theorem xm_34 : xmfb 34 = true := xmf_by (by decide +kernel) rfl (by decide +kernel) (by decide +kernel)
theorem xm_35 : xmfb 35 = true := xmf_by (by decide +kernel) rfl (by decide +kernel) (by decide +kernel)
theorem xm_36 : xmfb 36 = true := xmf_by (by decide +kernel) rfl (by decide +kernel) (by decide +kernel)
theorem xm_37 : xmfb 37 = true := xmf_by (by decide +kernel) rfl (by decide +kernel) (by decide +kernel)
theorem xm_38 : xmfb 38 = true := xmf_by (by decide +kernel) rfl (by decide +kernel) (by decide +kernel)
theorem xm_39 : xmfb 39 = true := xmf_by (by decide +kernel) rfl (by decide +kernel) (by decide +kernel)
theorem xm_40 : xmfb 40 = true := xmf_by (by decide +kernel) rfl (by decide +kernel) (by decide +kernel)
theorem xm_41 : xmfb 41 = true := xmf_by (by decide +kernel) rfl (by decide +kernel) (by decide +kernel)
theorem xm_42 : xmfb 42 = true := xmf_by (by decide +kernel) rfl (by decide +kernel) (by decide +kernel)
theorem xm_43 : xmfb 43 = true := xmf_by (by decide +kernel) rfl (by decide +kernel) (by decide +kernel)
theorem xm_44 : xmfb 44 = true := xmf_by (by decide +kernel) rfl (by decide +kernel) (by decide +kernel)
theorem xm_45 : xmfb 45 = true := xmf_by (by decide +kernel) rfl (by decide +kernel) (by decide +kernel)
theorem xm_46 : xmfb 46 = true := xmf_by (by decide +kernel) rfl (by decide +kernel) (by decide +kernel)
theorem xm_47 : xmfb 47 = true := xmf_by (by decide +kernel) rfl (by decide +kernel) (by decide +kernel)
theorem xm_48 : xmfb 48 = true := xmf_by (by decide +kernel) rfl (by decide +kernel) (by decide +kernel)
theorem xm_49 : xmfb 49 = true := xmf_by (by decide +kernel) rfl (by decide +kernel) (by decide +kernel)
theorem xm_50 : xmfb 50 = true := xmf_by (by decide +kernel) rfl (by decide +kernel) (by decide +kernel)
theorem xm_51 : xmfb 51 = true := xmf_by (by decide +kernel) rfl (by decide +kernel) (by decide +kernel)
theorem xm_52 : xmfb 52 = true := xmf_by (by decide +kernel) rfl (by decide +kernel) (by decide +kernel)
theorem xm_53 : xmfb 53 = true := xmf_by (by decide +kernel) rfl (by decide +kernel) (by decide +kernel)
theorem xm_54 : xmfb 54 = true := xmf_by (by decide +kernel) rfl (by decide +kernel) (by decide +kernel)
theorem xm_55 : xmfb 55 = true := xmf_by (by decide +kernel) rfl (by decide +kernel) (by decide +kernel)
theorem xm_56 : xmfb 56 = true := xmf_by (by decide +kernel) rfl (by decide +kernel) (by decide +kernel)
theorem xm_57 : xmfb 57 = true := xmf_by (by decide +kernel) rfl (by decide +kernel) (by decide +kernel)
theorem xm_58 : xmfb 58 = true := xmf_by (by decide +kernel) rfl (by decide +kernel) (by decide +kernel)
theorem xm_59 : xmfb 59 = true := xmf_by (by decide +kernel) rfl (by decide +kernel) (by decide +kernel)
theorem xm_60 : xmfb 60 = true := xmf_by (by decide +kernel) rfl (by decide +kernel) (by decide +kernel)
theorem xm_61 : xmfb 61 = true := xmf_by (by decide +kernel) rfl (by decide +kernel) (by decide +kernel)
theorem xm_62 : xmfb 62 = true := xmf_by (by decide +kernel) rfl (by decide +kernel) (by decide +kernel)
theorem xm_63 : xmfb 63 = true := xmf_by (by decide +kernel) rfl (by decide +kernel) (by decide +kernel)
theorem xm_64 : xmfb 64 = true := xmf_by (by decide +kernel) rfl (by decide +kernel) (by decide +kernel)
theorem xm_65 : xmfb 65 = true := xmf_by (by decide +kernel) rfl (by decide +kernel) (by decide +kernel)
theorem xm_66 : xmfb 66 = true := xmf_by (by decide +kernel) rfl (by decide +kernel) (by decide +kernel)
theorem xm_67 : xmfb 67 = true := xmf_by (by decide +kernel) rfl (by decide +kernel) (by decide +kernel)
theorem xm_68 : xmfb 68 = true := xmf_by (by decide +kernel) rfl (by decide +kernel) (by decide +kernel)
theorem xm_69 : xmfb 69 = true := xmf_by (by decide +kernel) rfl (by decide +kernel) (by decide +kernel)
theorem xm_70 : xmfb 70 = true := xmf_by (by decide +kernel) rfl (by decide +kernel) (by decide +kernel)
theorem xm_71 : xmfb 71 = true := xmf_by (by decide +kernel) rfl (by decide +kernel) (by decide +kernel)
theorem xm_72 : xmfb 72 = true := xmf_by (by decide +kernel) rfl (by decide +kernel) (by decide +kernel)
theorem xm_73 : xmfb 73 = true := xmf_by (by decide +kernel) rfl (by decide +kernel) (by decide +kernel)
theorem xm_74 : xmfb 74 = true := xmf_by (by decide +kernel) rfl (by decide +kernel) (by decide +kernel)
theorem xm_75 : xmfb 75 = true := xmf_by (by decide +kernel) rfl (by decide +kernel) (by decide +kernel)
theorem xm_76 : xmfb 76 = true := xmf_by (by decide +kernel) rfl (by decide +kernel) (by decide +kernel)
theorem xm_77 : xmfb 77 = true := xmf_by (by decide +kernel) rfl (by decide +kernel) (by decide +kernel)
theorem xm_78 : xmfb 78 = true := xmf_by (by decide +kernel) rfl (by decide +kernel) (by decide +kernel)
theorem xm_79 : xmfb 79 = true := xmf_by (by decide +kernel) rfl (by decide +kernel) (by decide +kernel)
theorem xm_80 : xmfb 80 = true := xmf_by (by decide +kernel) rfl (by decide +kernel) (by decide +kernel)
theorem xm_81 : xmfb 81 = true := xmf_by (by decide +kernel) rfl (by decide +kernel) (by decide +kernel)
theorem xm_82 : xmfb 82 = true := xmf_by (by decide +kernel) rfl (by decide +kernel) (by decide +kernel)
theorem xm_83 : xmfb 83 = true := xmf_by (by decide +kernel) rfl (by decide +kernel) (by decide +kernel)
theorem xm_84 : xmfb 84 = true := xmf_by (by decide +kernel) rfl (by decide +kernel) (by decide +kernel)
theorem xm_85 : xmfb 85 = true := xmf_by (by decide +kernel) rfl (by decide +kernel) (by decide +kernel)
theorem xm_86 : xmfb 86 = true := xmf_by (by decide +kernel) rfl (by decide +kernel) (by decide +kernel)
theorem xm_87 : xmfb 87 = true := xmf_by (by decide +kernel) rfl (by decide +kernel) (by decide +kernel)
theorem xm_88 : xmfb 88 = true := xmf_by (by decide +kernel) rfl (by decide +kernel) (by decide +kernel)
theorem xm_89 : xmfb 89 = true := xmf_by (by decide +kernel) rfl (by decide +kernel) (by decide +kernel)
theorem xm_90 : xmfb 90 = true := xmf_by (by decide +kernel) rfl (by decide +kernel) (by decide +kernel)
theorem xm_91 : xmfb 91 = true := xmf_by (by decide +kernel) rfl (by decide +kernel) (by decide +kernel)
theorem xm_92 : xmfb 92 = true := xmf_by (by decide +kernel) rfl (by decide +kernel) (by decide +kernel)
theorem xm_93 : xmfb 93 = true := xmf_by (by decide +kernel) rfl (by decide +kernel) (by decide +kernel)
theorem xm_94 : xmfb 94 = true := xmf_by (by decide +kernel) rfl (by decide +kernel) (by decide +kernel)
theorem xm_95 : xmfb 95 = true := xmf_by (by decide +kernel) rfl (by decide +kernel) (by decide +kernel)
theorem xm_96 : xmfb 96 = true := xmf_by (by decide +kernel) rfl (by decide +kernel) (by decide +kernel)
theorem xm_97 : xmfb 97 = true := xmf_by (by decide +kernel) rfl (by decide +kernel) (by decide +kernel)
theorem xm_98 : xmfb 98 = true := xmf_by (by decide +kernel) rfl (by decide +kernel) (by decide +kernel)
theorem xm_99 : xmfb 99 = true := xmf_by (by decide +kernel) rfl (by decide +kernel) (by decide +kernel)
theorem xm_100 : xmfb 100 = true := xmf_by (by decide +kernel) rfl (by decide +kernel) (by decide +kernel)
theorem xm_101 : xmfb 101 = true := xmf_by (by decide +kernel) rfl (by decide +kernel) (by decide +kernel)
theorem xm_102 : xmfb 102 = true := xmf_by (by decide +kernel) rfl (by decide +kernel) (by decide +kernel)
theorem xm_103 : xmfb 103 = true := xmf_by (by decide +kernel) rfl (by decide +kernel) (by decide +kernel)
theorem xm_104 : xmfb 104 = true := xmf_by (by decide +kernel) rfl (by decide +kernel) (by decide +kernel)
theorem xm_105 : xmfb 105 = true := xmf_by (by decide +kernel) rfl (by decide +kernel) (by decide +kernel)
theorem xm_106 : xmfb 106 = true := xmf_by (by decide +kernel) rfl (by decide +kernel) (by decide +kernel)
theorem xm_107 : xmfb 107 = true := xmf_by (by decide +kernel) rfl (by decide +kernel) (by decide +kernel)
theorem xm_108 : xmfb 108 = true := xmf_by (by decide +kernel) rfl (by decide +kernel) (by decide +kernel)
theorem xm_109 : xmfb 109 = true := xmf_by (by decide +kernel) rfl (by decide +kernel) (by decide +kernel)
theorem xm_110 : xmfb 110 = true := xmf_by (by decide +kernel) rfl (by decide +kernel) (by decide +kernel)
theorem xm_111 : xmfb 111 = true := xmf_by (by decide +kernel) rfl (by decide +kernel) (by decide +kernel)
theorem xm_112 : xmfb 112 = true := xmf_by (by decide +kernel) rfl (by decide +kernel) (by decide +kernel)
theorem xm_113 : xmfb 113 = true := xmf_by (by decide +kernel) rfl (by decide +kernel) (by decide +kernel)
theorem xm_114 : xmfb 114 = true := xmf_by (by decide +kernel) rfl (by decide +kernel) (by decide +kernel)
theorem xm_115 : xmfb 115 = true := xmf_by (by decide +kernel) rfl (by decide +kernel) (by decide +kernel)
theorem xm_116 : xmfb 116 = true := xmf_by (by decide +kernel) rfl (by decide +kernel) (by decide +kernel)
theorem xm_117 : xmfb 117 = true := xmf_by (by decide +kernel) rfl (by decide +kernel) (by decide +kernel)
theorem xm_118 : xmfb 118 = true := xmf_by (by decide +kernel) rfl (by decide +kernel) (by decide +kernel)
theorem xm_119 : xmfb 119 = true := xmf_by (by decide +kernel) rfl (by decide +kernel) (by decide +kernel)
theorem xm_120 : xmfb 120 = true := xmf_by (by decide +kernel) rfl (by decide +kernel) (by decide +kernel)
theorem xm_121 : xmfb 121 = true := xmf_by (by decide +kernel) rfl (by decide +kernel) (by decide +kernel)
theorem xm_122 : xmfb 122 = true := xmf_by (by decide +kernel) rfl (by decide +kernel) (by decide +kernel)
theorem xm_123 : xmfb 123 = true := xmf_by (by decide +kernel) rfl (by decide +kernel) (by decide +kernel)
theorem xm_124 : xmfb 124 = true := xmf_by (by decide +kernel) rfl (by decide +kernel) (by decide +kernel)
theorem xm_125 : xmfb 125 = true := xmf_by (by decide +kernel) rfl (by decide +kernel) (by decide +kernel)
theorem xm_126 : xmfb 126 = true := xmf_by (by decide +kernel) rfl (by decide +kernel) (by decide +kernel)
theorem xm_127 : xmfb 127 = true := xmf_by (by decide +kernel) rfl (by decide +kernel) (by decide +kernel)
theorem xm_128 : xmfb 128 = true := xmf_by (by decide +kernel) rfl (by decide +kernel) (by decide +kernel)
theorem xm_129 : xmfb 129 = true := xmf_by (by decide +kernel) rfl (by decide +kernel) (by decide +kernel)
theorem xm_130 : xmfb 130 = true := xmf_by (by decide +kernel) rfl (by decide +kernel) (by decide +kernel)
theorem xm_131 : xmfb 131 = true := xmf_by (by decide +kernel) rfl (by decide +kernel) (by decide +kernel)
theorem xm_132 : xmfb 132 = true := xmf_by (by decide +kernel) rfl (by decide +kernel) (by decide +kernel)
theorem xm_133 : xmfb 133 = true := xmf_by (by decide +kernel) rfl (by decide +kernel) (by decide +kernel)
theorem xm_134 : xmfb 134 = true := xmf_by (by decide +kernel) rfl (by decide +kernel) (by decide +kernel)
theorem xm_135 : xmfb 135 = true := xmf_by (by decide +kernel) rfl (by decide +kernel) (by decide +kernel)
theorem xm_136 : xmfb 136 = true := xmf_by (by decide +kernel) rfl (by decide +kernel) (by decide +kernel)
theorem xm_137 : xmfb 137 = true := xmf_by (by decide +kernel) rfl (by decide +kernel) (by decide +kernel)
theorem xm_138 : xmfb 138 = true := xmf_by (by decide +kernel) rfl (by decide +kernel) (by decide +kernel)
theorem xm_139 : xmfb 139 = true := xmf_by (by decide +kernel) rfl (by decide +kernel) (by decide +kernel)
theorem xm_140 : xmfb 140 = true := xmf_by (by decide +kernel) rfl (by decide +kernel) (by decide +kernel)
theorem xm_141 : xmfb 141 = true := xmf_by (by decide +kernel) rfl (by decide +kernel) (by decide +kernel)
theorem xm_142 : xmfb 142 = true := xmf_by (by decide +kernel) rfl (by decide +kernel) (by decide +kernel)
theorem xm_143 : xmfb 143 = true := xmf_by (by decide +kernel) rfl (by decide +kernel) (by decide +kernel)
theorem xm_144 : xmfb 144 = true := xmf_by (by decide +kernel) rfl (by decide +kernel) (by decide +kernel)
theorem xm_145 : xmfb 145 = true := xmf_by (by decide +kernel) rfl (by decide +kernel) (by decide +kernel)
theorem xm_146 : xmfb 146 = true := xmf_by (by decide +kernel) rfl (by decide +kernel) (by decide +kernel)
theorem xm_147 : xmfb 147 = true := xmf_by (by decide +kernel) rfl (by decide +kernel) (by decide +kernel)
theorem xm_148 : xmfb 148 = true := xmf_by (by decide +kernel) rfl (by decide +kernel) (by decide +kernel)
theorem xm_149 : xmfb 149 = true := xmf_by (by decide +kernel) rfl (by decide +kernel) (by decide +kernel)
theorem xm_150 : xmfb 150 = true := xmf_by (by decide +kernel) rfl (by decide +kernel) (by decide +kernel)
theorem xm_151 : xmfb 151 = true := xmf_by (by decide +kernel) rfl (by decide +kernel) (by decide +kernel)
theorem xm_152 : xmfb 152 = true := xmf_by (by decide +kernel) rfl (by decide +kernel) (by decide +kernel)
theorem xm_153 : xmfb 153 = true := xmf_by (by decide +kernel) rfl (by decide +kernel) (by decide +kernel)
theorem xm_154 : xmfb 154 = true := xmf_by (by decide +kernel) rfl (by decide +kernel) (by decide +kernel)
theorem xm_155 : xmfb 155 = true := xmf_by (by decide +kernel) rfl (by decide +kernel) (by decide +kernel)
theorem xm_156 : xmfb 156 = true := xmf_by (by decide +kernel) rfl (by decide +kernel) (by decide +kernel)
theorem xm_157 : xmfb 157 = true := xmf_by (by decide +kernel) rfl (by decide +kernel) (by decide +kernel)
theorem xm_158 : xmfb 158 = true := xmf_by (by decide +kernel) rfl (by decide +kernel) (by decide +kernel)
theorem xm_159 : xmfb 159 = true := xmf_by (by decide +kernel) rfl (by decide +kernel) (by decide +kernel)
theorem xm_160 : xmfb 160 = true := xmf_by (by decide +kernel) rfl (by decide +kernel) (by decide +kernel)
theorem xm_161 : xmfb 161 = true := xmf_by (by decide +kernel) rfl (by decide +kernel) (by decide +kernel)
theorem xm_162 : xmfb 162 = true := xmf_by (by decide +kernel) rfl (by decide +kernel) (by decide +kernel)
theorem xm_163 : xmfb 163 = true := xmf_by (by decide +kernel) rfl (by decide +kernel) (by decide +kernel)
theorem xm_164 : xmfb 164 = true := xmf_by (by decide +kernel) rfl (by decide +kernel) (by decide +kernel)
theorem xm_165 : xmfb 165 = true := xmf_by (by decide +kernel) rfl (by decide +kernel) (by decide +kernel)
theorem xm_166 : xmfb 166 = true := xmf_by (by decide +kernel) rfl (by decide +kernel) (by decide +kernel)
theorem xm_167 : xmfb 167 = true := xmf_by (by decide +kernel) rfl (by decide +kernel) (by decide +kernel)
theorem xm_168 : xmfb 168 = true := xmf_by (by decide +kernel) rfl (by decide +kernel) (by decide +kernel)
theorem xm_169 : xmfb 169 = true := xmf_by (by decide +kernel) rfl (by decide +kernel) (by decide +kernel)
theorem xm_170 : xmfb 170 = true := xmf_by (by decide +kernel) rfl (by decide +kernel) (by decide +kernel)
theorem xm_171 : xmfb 171 = true := xmf_by (by decide +kernel) rfl (by decide +kernel) (by decide +kernel)
theorem xm_172 : xmfb 172 = true := xmf_by (by decide +kernel) rfl (by decide +kernel) (by decide +kernel)
theorem xm_173 : xmfb 173 = true := xmf_by (by decide +kernel) rfl (by decide +kernel) (by decide +kernel)
theorem xm_174 : xmfb 174 = true := xmf_by (by decide +kernel) rfl (by decide +kernel) (by decide +kernel)
theorem xm_175 : xmfb 175 = true := xmf_by (by decide +kernel) rfl (by decide +kernel) (by decide +kernel)
theorem xm_176 : xmfb 176 = true := xmf_by (by decide +kernel) rfl (by decide +kernel) (by decide +kernel)
theorem xm_177 : xmfb 177 = true := xmf_by (by decide +kernel) rfl (by decide +kernel) (by decide +kernel)
theorem xm_178 : xmfb 178 = true := xmf_by (by decide +kernel) rfl (by decide +kernel) (by decide +kernel)
theorem xm_179 : xmfb 179 = true := xmf_by (by decide +kernel) rfl (by decide +kernel) (by decide +kernel)
theorem xm_180 : xmfb 180 = true := xmf_by (by decide +kernel) rfl (by decide +kernel) (by decide +kernel)
theorem xm_181 : xmfb 181 = true := xmf_by (by decide +kernel) rfl (by decide +kernel) (by decide +kernel)
theorem xm_182 : xmfb 182 = true := xmf_by (by decide +kernel) rfl (by decide +kernel) (by decide +kernel)
theorem xm_183 : xmfb 183 = true := xmf_by (by decide +kernel) rfl (by decide +kernel) (by decide +kernel)
theorem xm_184 : xmfb 184 = true := xmf_by (by decide +kernel) rfl (by decide +kernel) (by decide +kernel)
theorem xm_185 : xmfb 185 = true := xmf_by (by decide +kernel) rfl (by decide +kernel) (by decide +kernel)
theorem xm_186 : xmfb 186 = true := xmf_by (by decide +kernel) rfl (by decide +kernel) (by decide +kernel)
theorem xm_187 : xmfb 187 = true := xmf_by (by decide +kernel) rfl (by decide +kernel) (by decide +kernel)
theorem xm_188 : xmfb 188 = true := xmf_by (by decide +kernel) rfl (by decide +kernel) (by decide +kernel)
theorem xm_189 : xmfb 189 = true := xmf_by (by decide +kernel) rfl (by decide +kernel) (by decide +kernel)
theorem xm_190 : xmfb 190 = true := xmf_by (by decide +kernel) rfl (by decide +kernel) (by decide +kernel)
theorem xm_191 : xmfb 191 = true := xmf_by (by decide +kernel) rfl (by decide +kernel) (by decide +kernel)
theorem xm_192 : xmfb 192 = true := xmf_by (by decide +kernel) rfl (by decide +kernel) (by decide +kernel)
theorem xm_193 : xmfb 193 = true := xmf_by (by decide +kernel) rfl (by decide +kernel) (by decide +kernel)
theorem xm_194 : xmfb 194 = true := xmf_by (by decide +kernel) rfl (by decide +kernel) (by decide +kernel)
theorem xm_195 : xmfb 195 = true := xmf_by (by decide +kernel) rfl (by decide +kernel) (by decide +kernel)
theorem xm_196 : xmfb 196 = true := xmf_by (by decide +kernel) rfl (by decide +kernel) (by decide +kernel)
theorem xm_197 : xmfb 197 = true := xmf_by (by decide +kernel) rfl (by decide +kernel) (by decide +kernel)
theorem xm_198 : xmfb 198 = true := xmf_by (by decide +kernel) rfl (by decide +kernel) (by decide +kernel)
theorem xm_199 : xmfb 199 = true := xmf_by (by decide +kernel) rfl (by decide +kernel) (by decide +kernel)
theorem xm_200 : xmfb 200 = true := xmf_by (by decide +kernel) rfl (by decide +kernel) (by decide +kernel)
theorem xm_201 : xmfb 201 = true := xmf_by (by decide +kernel) rfl (by decide +kernel) (by decide +kernel)
theorem xm_202 : xmfb 202 = true := xmf_by (by decide +kernel) rfl (by decide +kernel) (by decide +kernel)
theorem xm_203 : xmfb 203 = true := xmf_by (by decide +kernel) rfl (by decide +kernel) (by decide +kernel)
theorem xm_204 : xmfb 204 = true := xmf_by (by decide +kernel) rfl (by decide +kernel) (by decide +kernel)
theorem xm_205 : xmfb 205 = true := xmf_by (by decide +kernel) rfl (by decide +kernel) (by decide +kernel)
theorem xm_206 : xmfb 206 = true := xmf_by (by decide +kernel) rfl (by decide +kernel) (by decide +kernel)
theorem xm_207 : xmfb 207 = true := xmf_by (by decide +kernel) rfl (by decide +kernel) (by decide +kernel)
theorem xm_208 : xmfb 208 = true := xmf_by (by decide +kernel) rfl (by decide +kernel) (by decide +kernel)
theorem xm_209 : xmfb 209 = true := xmf_by (by decide +kernel) rfl (by decide +kernel) (by decide +kernel)
theorem xm_210 : xmfb 210 = true := xmf_by (by decide +kernel) rfl (by decide +kernel) (by decide +kernel)
theorem xm_211 : xmfb 211 = true := xmf_by (by decide +kernel) rfl (by decide +kernel) (by decide +kernel)
theorem xm_212 : xmfb 212 = true := xmf_by (by decide +kernel) rfl (by decide +kernel) (by decide +kernel)
theorem xm_213 : xmfb 213 = true := xmf_by (by decide +kernel) rfl (by decide +kernel) (by decide +kernel)
theorem xm_214 : xmfb 214 = true := xmf_by (by decide +kernel) rfl (by decide +kernel) (by decide +kernel)
theorem xm_215 : xmfb 215 = true := xmf_by (by decide +kernel) rfl (by decide +kernel) (by decide +kernel)
theorem xm_216 : xmfb 216 = true := xmf_by (by decide +kernel) rfl (by decide +kernel) (by decide +kernel)
theorem xm_217 : xmfb 217 = true := xmf_by (by decide +kernel) rfl (by decide +kernel) (by decide +kernel)
theorem xm_218 : xmfb 218 = true := xmf_by (by decide +kernel) rfl (by decide +kernel) (by decide +kernel)
theorem xm_219 : xmfb 219 = true := xmf_by (by decide +kernel) rfl (by decide +kernel) (by decide +kernel)
theorem xm_220 : xmfb 220 = true := xmf_by (by decide +kernel) rfl (by decide +kernel) (by decide +kernel)
theorem xm_221 : xmfb 221 = true := xmf_by (by decide +kernel) rfl (by decide +kernel) (by decide +kernel)
theorem xm_222 : xmfb 222 = true := xmf_by (by decide +kernel) rfl (by decide +kernel) (by decide +kernel)
theorem xm_223 : xmfb 223 = true := xmf_by (by decide +kernel) rfl (by decide +kernel) (by decide +kernel)
theorem xm_224 : xmfb 224 = true := xmf_by (by decide +kernel) rfl (by decide +kernel) (by decide +kernel)
theorem xm_225 : xmfb 225 = true := xmf_by (by decide +kernel) rfl (by decide +kernel) (by decide +kernel)
theorem xm_226 : xmfb 226 = true := xmf_by (by decide +kernel) rfl (by decide +kernel) (by decide +kernel)
theorem xm_227 : xmfb 227 = true := xmf_by (by decide +kernel) rfl (by decide +kernel) (by decide +kernel)
theorem xm_228 : xmfb 228 = true := xmf_by (by decide +kernel) rfl (by decide +kernel) (by decide +kernel)
theorem xm_229 : xmfb 229 = true := xmf_by (by decide +kernel) rfl (by decide +kernel) (by decide +kernel)
theorem xm_230 : xmfb 230 = true := xmf_by (by decide +kernel) rfl (by decide +kernel) (by decide +kernel)
theorem xm_231 : xmfb 231 = true := xmf_by (by decide +kernel) rfl (by decide +kernel) (by decide +kernel)
theorem xm_232 : xmfb 232 = true := xmf_by (by decide +kernel) rfl (by decide +kernel) (by decide +kernel)
theorem xm_233 : xmfb 233 = true := xmf_by (by decide +kernel) rfl (by decide +kernel) (by decide +kernel)
theorem xm_234 : xmfb 234 = true := xmf_by (by decide +kernel) rfl (by decide +kernel) (by decide +kernel)
theorem xm_235 : xmfb 235 = true := xmf_by (by decide +kernel) rfl (by decide +kernel) (by decide +kernel)
theorem xm_236 : xmfb 236 = true := xmf_by (by decide +kernel) rfl (by decide +kernel) (by decide +kernel)
theorem xm_237 : xmfb 237 = true := xmf_by (by decide +kernel) rfl (by decide +kernel) (by decide +kernel)
theorem xm_238 : xmfb 238 = true := xmf_by (by decide +kernel) rfl (by decide +kernel) (by decide +kernel)
theorem xm_239 : xmfb 239 = true := xmf_by (by decide +kernel) rfl (by decide +kernel) (by decide +kernel)
theorem xm_240 : xmfb 240 = true := xmf_by (by decide +kernel) rfl (by decide +kernel) (by decide +kernel)
theorem xm_241 : xmfb 241 = true := xmf_by (by decide +kernel) rfl (by decide +kernel) (by decide +kernel)
theorem xm_242 : xmfb 242 = true := xmf_by (by decide +kernel) rfl (by decide +kernel) (by decide +kernel)
theorem xm_243 : xmfb 243 = true := xmf_by (by decide +kernel) rfl (by decide +kernel) (by decide +kernel)
theorem xm_244 : xmfb 244 = true := xmf_by (by decide +kernel) rfl (by decide +kernel) (by decide +kernel)
theorem xm_245 : xmfb 245 = true := xmf_by (by decide +kernel) rfl (by decide +kernel) (by decide +kernel)
theorem xm_246 : xmfb 246 = true := xmf_by (by decide +kernel) rfl (by decide +kernel) (by decide +kernel)
theorem xm_247 : xmfb 247 = true := xmf_by (by decide +kernel) rfl (by decide +kernel) (by decide +kernel)
theorem xm_248 : xmfb 248 = true := xmf_by (by decide +kernel) rfl (by decide +kernel) (by decide +kernel)
theorem xm_249 : xmfb 249 = true := xmf_by (by decide +kernel) rfl (by decide +kernel) (by decide +kernel)
theorem xm_250 : xmfb 250 = true := xmf_by (by decide +kernel) rfl (by decide +kernel) (by decide +kernel)
theorem xm_251 : xmfb 251 = true := xmf_by (by decide +kernel) rfl (by decide +kernel) (by decide +kernel)
theorem xm_252 : xmfb 252 = true := xmf_by (by decide +kernel) rfl (by decide +kernel) (by decide +kernel)
theorem xm_253 : xmfb 253 = true := xmf_by (by decide +kernel) rfl (by decide +kernel) (by decide +kernel)
theorem xm_254 : xmfb 254 = true := xmf_by (by decide +kernel) rfl (by decide +kernel) (by decide +kernel)
theorem xm_255 : xmfb 255 = true := xmf_by (by decide +kernel) rfl (by decide +kernel) (by decide +kernel)
theorem xm_256 : xmfb 256 = true := xmf_by (by decide +kernel) rfl (by decide +kernel) (by decide +kernel)
theorem xm_257 : xmfb 257 = true := xmf_by (by decide +kernel) rfl (by decide +kernel) (by decide +kernel)
theorem xm_258 : xmfb 258 = true := xmf_by (by decide +kernel) rfl (by decide +kernel) (by decide +kernel)
theorem xm_259 : xmfb 259 = true := xmf_by (by decide +kernel) rfl (by decide +kernel) (by decide +kernel)
theorem xm_260 : xmfb 260 = true := xmf_by (by decide +kernel) rfl (by decide +kernel) (by decide +kernel)
theorem xm_261 : xmfb 261 = true := xmf_by (by decide +kernel) rfl (by decide +kernel) (by decide +kernel)
theorem xm_262 : xmfb 262 = true := xmf_by (by decide +kernel) rfl (by decide +kernel) (by decide +kernel)
theorem xm_263 : xmfb 263 = true := xmf_by (by decide +kernel) rfl (by decide +kernel) (by decide +kernel)
theorem xm_264 : xmfb 264 = true := xmf_by (by decide +kernel) rfl (by decide +kernel) (by decide +kernel)
theorem xm_265 : xmfb 265 = true := xmf_by (by decide +kernel) rfl (by decide +kernel) (by decide +kernel)
theorem xm_266 : xmfb 266 = true := xmf_by (by decide +kernel) rfl (by decide +kernel) (by decide +kernel)
theorem xm_267 : xmfb 267 = true := xmf_by (by decide +kernel) rfl (by decide +kernel) (by decide +kernel)
theorem xm_268 : xmfb 268 = true := xmf_by (by decide +kernel) rfl (by decide +kernel) (by decide +kernel)
theorem xm_269 : xmfb 269 = true := xmf_by (by decide +kernel) rfl (by decide +kernel) (by decide +kernel)
theorem xm_270 : xmfb 270 = true := xmf_by (by decide +kernel) rfl (by decide +kernel) (by decide +kernel)
theorem xm_271 : xmfb 271 = true := xmf_by (by decide +kernel) rfl (by decide +kernel) (by decide +kernel)
theorem xm_272 : xmfb 272 = true := xmf_by (by decide +kernel) rfl (by decide +kernel) (by decide +kernel)
theorem xm_273 : xmfb 273 = true := xmf_by (by decide +kernel) rfl (by decide +kernel) (by decide +kernel)
theorem xm_274 : xmfb 274 = true := xmf_by (by decide +kernel) rfl (by decide +kernel) (by decide +kernel)
theorem xm_275 : xmfb 275 = true := xmf_by (by decide +kernel) rfl (by decide +kernel) (by decide +kernel)
theorem xm_276 : xmfb 276 = true := xmf_by (by decide +kernel) rfl (by decide +kernel) (by decide +kernel)
theorem xm_277 : xmfb 277 = true := xmf_by (by decide +kernel) rfl (by decide +kernel) (by decide +kernel)
theorem xm_278 : xmfb 278 = true := xmf_by (by decide +kernel) rfl (by decide +kernel) (by decide +kernel)
theorem xm_279 : xmfb 279 = true := xmf_by (by decide +kernel) rfl (by decide +kernel) (by decide +kernel)
theorem xm_280 : xmfb 280 = true := xmf_by (by decide +kernel) rfl (by decide +kernel) (by decide +kernel)
theorem xm_281 : xmfb 281 = true := xmf_by (by decide +kernel) rfl (by decide +kernel) (by decide +kernel)
theorem xm_282 : xmfb 282 = true := xmf_by (by decide +kernel) rfl (by decide +kernel) (by decide +kernel)
theorem xm_283 : xmfb 283 = true := xmf_by (by decide +kernel) rfl (by decide +kernel) (by decide +kernel)
theorem xm_284 : xmfb 284 = true := xmf_by (by decide +kernel) rfl (by decide +kernel) (by decide +kernel)
theorem xm_285 : xmfb 285 = true := xmf_by (by decide +kernel) rfl (by decide +kernel) (by decide +kernel)
theorem xm_286 : xmfb 286 = true := xmf_by (by decide +kernel) rfl (by decide +kernel) (by decide +kernel)
theorem xm_287 : xmfb 287 = true := xmf_by (by decide +kernel) rfl (by decide +kernel) (by decide +kernel)
theorem xm_288 : xmfb 288 = true := xmf_by (by decide +kernel) rfl (by decide +kernel) (by decide +kernel)
theorem xm_289 : xmfb 289 = true := xmf_by (by decide +kernel) rfl (by decide +kernel) (by decide +kernel)
theorem xm_290 : xmfb 290 = true := xmf_by (by decide +kernel) rfl (by decide +kernel) (by decide +kernel)
theorem xm_291 : xmfb 291 = true := xmf_by (by decide +kernel) rfl (by decide +kernel) (by decide +kernel)
theorem xm_292 : xmfb 292 = true := xmf_by (by decide +kernel) rfl (by decide +kernel) (by decide +kernel)
theorem xm_293 : xmfb 293 = true := xmf_by (by decide +kernel) rfl (by decide +kernel) (by decide +kernel)
theorem xm_294 : xmfb 294 = true := xmf_by (by decide +kernel) rfl (by decide +kernel) (by decide +kernel)
theorem xm_295 : xmfb 295 = true := xmf_by (by decide +kernel) rfl (by decide +kernel) (by decide +kernel)
theorem xm_296 : xmfb 296 = true := xmf_by (by decide +kernel) rfl (by decide +kernel) (by decide +kernel)
theorem xm_297 : xmfb 297 = true := xmf_by (by decide +kernel) rfl (by decide +kernel) (by decide +kernel)
theorem xm_298 : xmfb 298 = true := xmf_by (by decide +kernel) rfl (by decide +kernel) (by decide +kernel)
theorem xm_299 : xmfb 299 = true := xmf_by (by decide +kernel) rfl (by decide +kernel) (by decide +kernel)
theorem xm_300 : xmfb 300 = true := xmf_by (by decide +kernel) rfl (by decide +kernel) (by decide +kernel)
theorem xm_301 : xmfb 301 = true := xmf_by (by decide +kernel) rfl (by decide +kernel) (by decide +kernel)
theorem xm_302 : xmfb 302 = true := xmf_by (by decide +kernel) rfl (by decide +kernel) (by decide +kernel)
theorem xm_303 : xmfb 303 = true := xmf_by (by decide +kernel) rfl (by decide +kernel) (by decide +kernel)
theorem xm_304 : xmfb 304 = true := xmf_by (by decide +kernel) rfl (by decide +kernel) (by decide +kernel)
theorem xm_305 : xmfb 305 = true := xmf_by (by decide +kernel) rfl (by decide +kernel) (by decide +kernel)
theorem xm_306 : xmfb 306 = true := xmf_by (by decide +kernel) rfl (by decide +kernel) (by decide +kernel)
theorem xm_307 : xmfb 307 = true := xmf_by (by decide +kernel) rfl (by decide +kernel) (by decide +kernel)
theorem xm_308 : xmfb 308 = true := xmf_by (by decide +kernel) rfl (by decide +kernel) (by decide +kernel)
theorem xm_309 : xmfb 309 = true := xmf_by (by decide +kernel) rfl (by decide +kernel) (by decide +kernel)
theorem xm_310 : xmfb 310 = true := xmf_by (by decide +kernel) rfl (by decide +kernel) (by decide +kernel)
theorem xm_311 : xmfb 311 = true := xmf_by (by decide +kernel) rfl (by decide +kernel) (by decide +kernel)
theorem xm_312 : xmfb 312 = true := xmf_by (by decide +kernel) rfl (by decide +kernel) (by decide +kernel)
theorem xm_315 : xmfb 315 = true := xmf_by (by decide +kernel) rfl (by decide +kernel) (by decide +kernel)
theorem xm_316 : xmfb 316 = true := xmf_by (by decide +kernel) rfl (by decide +kernel) (by decide +kernel)
theorem xm_317 : xmfb 317 = true := xmf_by (by decide +kernel) rfl (by decide +kernel) (by decide +kernel)
theorem xm_318 : xmfb 318 = true := xmf_by (by decide +kernel) rfl (by decide +kernel) (by decide +kernel)
theorem xm_319 : xmfb 319 = true := xmf_by (by decide +kernel) rfl (by decide +kernel) (by decide +kernel)
theorem xm_320 : xmfb 320 = true := xmf_by (by decide +kernel) rfl (by decide +kernel) (by decide +kernel)
theorem xm_325 : xmfb 325 = true := xmf_by (by decide +kernel) rfl (by decide +kernel) (by decide +kernel)
theorem xm_326 : xmfb 326 = true := xmf_by (by decide +kernel) rfl (by decide +kernel) (by decide +kernel)
theorem xh_1 : (List.range' 1 16).all (fun a => !xisM a || xmfb a) = true := by
  rw [List.all_eq_true]
  intro a ha
  rw [List.mem_range'_1] at ha
  have h2 : a = 1 ∨ a = 2 ∨ a = 3 ∨ a = 4 ∨ a = 5 ∨ a = 6 ∨ a = 7 ∨ a = 8 ∨ a = 9 ∨ a = 10 ∨ a = 11 ∨ a = 12 ∨ a = 13 ∨ a = 14 ∨ a = 15 ∨ a = 16 := by omega
  rcases h2 with rfl | rfl | rfl | rfl | rfl | rfl | rfl | rfl | rfl | rfl | rfl | rfl | rfl | rfl | rfl | rfl
  · rw [xm_1]; exact Bool.or_true _
  · rw [xm_2]; exact Bool.or_true _
  · rw [xm_3]; exact Bool.or_true _
  · rw [xm_4]; exact Bool.or_true _
  · rw [xm_5]; exact Bool.or_true _
  · rw [xm_6]; exact Bool.or_true _
  · rw [xm_7]; exact Bool.or_true _
  · rw [xm_8]; exact Bool.or_true _
  · rw [xm_9]; exact Bool.or_true _
  · rw [xm_10]; exact Bool.or_true _
  · rw [xm_11]; exact Bool.or_true _
  · rw [xm_12]; exact Bool.or_true _
  · rw [xm_13]; exact Bool.or_true _
  · rw [xm_14]; exact Bool.or_true _
  · rw [xm_15]; exact Bool.or_true _
  · rw [xm_16]; exact Bool.or_true _
theorem xh_17 : (List.range' 17 16).all (fun a => !xisM a || xmfb a) = true := by
  rw [List.all_eq_true]
  intro a ha
  rw [List.mem_range'_1] at ha
  have h2 : a = 17 ∨ a = 18 ∨ a = 19 ∨ a = 20 ∨ a = 21 ∨ a = 22 ∨ a = 23 ∨ a = 24 ∨ a = 25 ∨ a = 26 ∨ a = 27 ∨ a = 28 ∨ a = 29 ∨ a = 30 ∨ a = 31 ∨ a = 32 := by omega
  rcases h2 with rfl | rfl | rfl | rfl | rfl | rfl | rfl | rfl | rfl | rfl | rfl | rfl | rfl | rfl | rfl | rfl
  · rw [xm_17]; exact Bool.or_true _
  · rw [xm_18]; exact Bool.or_true _
  · rw [xm_19]; exact Bool.or_true _
  · rw [xm_20]; exact Bool.or_true _
  · rw [xm_21]; exact Bool.or_true _
  · rw [xm_22]; exact Bool.or_true _
  · rw [xm_23]; exact Bool.or_true _
  · rw [xm_24]; exact Bool.or_true _
  · rw [xm_25]; exact Bool.or_true _
  · rw [xm_26]; exact Bool.or_true _
  · rw [xm_27]; exact Bool.or_true _
  · rw [xm_28]; exact Bool.or_true _
  · rw [xm_29]; exact Bool.or_true _
  · rw [xm_30]; exact Bool.or_true _
  · rw [xm_31]; exact Bool.or_true _
  · rw [xm_32]; exact Bool.or_true _
theorem xh_33 : (List.range' 33 16).all (fun a => !xisM a || xmfb a) = true := by
  rw [List.all_eq_true]
  intro a ha
  rw [List.mem_range'_1] at ha
  have h2 : a = 33 ∨ a = 34 ∨ a = 35 ∨ a = 36 ∨ a = 37 ∨ a = 38 ∨ a = 39 ∨ a = 40 ∨ a = 41 ∨ a = 42 ∨ a = 43 ∨ a = 44 ∨ a = 45 ∨ a = 46 ∨ a = 47 ∨ a = 48 := by omega
  rcases h2 with rfl | rfl | rfl | rfl | rfl | rfl | rfl | rfl | rfl | rfl | rfl | rfl | rfl | rfl | rfl | rfl
  · rw [xm_33]; exact Bool.or_true _
  · rw [xm_34]; exact Bool.or_true _
  · rw [xm_35]; exact Bool.or_true _
  · rw [xm_36]; exact Bool.or_true _
  · rw [xm_37]; exact Bool.or_true _
  · rw [xm_38]; exact Bool.or_true _
  · rw [xm_39]; exact Bool.or_true _
  · rw [xm_40]; exact Bool.or_true _
  · rw [xm_41]; exact Bool.or_true _
  · rw [xm_42]; exact Bool.or_true _
  · rw [xm_43]; exact Bool.or_true _
  · rw [xm_44]; exact Bool.or_true _
  · rw [xm_45]; exact Bool.or_true _
  · rw [xm_46]; exact Bool.or_true _
  · rw [xm_47]; exact Bool.or_true _
  · rw [xm_48]; exact Bool.or_true _
theorem xh_49 : (List.range' 49 16).all (fun a => !xisM a || xmfb a) = true := by
  rw [List.all_eq_true]
  intro a ha
  rw [List.mem_range'_1] at ha
  have h2 : a = 49 ∨ a = 50 ∨ a = 51 ∨ a = 52 ∨ a = 53 ∨ a = 54 ∨ a = 55 ∨ a = 56 ∨ a = 57 ∨ a = 58 ∨ a = 59 ∨ a = 60 ∨ a = 61 ∨ a = 62 ∨ a = 63 ∨ a = 64 := by omega
  rcases h2 with rfl | rfl | rfl | rfl | rfl | rfl | rfl | rfl | rfl | rfl | rfl | rfl | rfl | rfl | rfl | rfl
  · rw [xm_49]; exact Bool.or_true _
  · rw [xm_50]; exact Bool.or_true _
  · rw [xm_51]; exact Bool.or_true _
  · rw [xm_52]; exact Bool.or_true _
  · rw [xm_53]; exact Bool.or_true _
  · rw [xm_54]; exact Bool.or_true _
  · rw [xm_55]; exact Bool.or_true _
  · rw [xm_56]; exact Bool.or_true _
  · rw [xm_57]; exact Bool.or_true _
  · rw [xm_58]; exact Bool.or_true _
  · rw [xm_59]; exact Bool.or_true _
  · rw [xm_60]; exact Bool.or_true _
  · rw [xm_61]; exact Bool.or_true _
  · rw [xm_62]; exact Bool.or_true _
  · rw [xm_63]; exact Bool.or_true _
  · rw [xm_64]; exact Bool.or_true _
theorem xh_65 : (List.range' 65 16).all (fun a => !xisM a || xmfb a) = true := by
  rw [List.all_eq_true]
  intro a ha
  rw [List.mem_range'_1] at ha
  have h2 : a = 65 ∨ a = 66 ∨ a = 67 ∨ a = 68 ∨ a = 69 ∨ a = 70 ∨ a = 71 ∨ a = 72 ∨ a = 73 ∨ a = 74 ∨ a = 75 ∨ a = 76 ∨ a = 77 ∨ a = 78 ∨ a = 79 ∨ a = 80 := by omega
  rcases h2 with rfl | rfl | rfl | rfl | rfl | rfl | rfl | rfl | rfl | rfl | rfl | rfl | rfl | rfl | rfl | rfl
  · rw [xm_65]; exact Bool.or_true _
  · rw [xm_66]; exact Bool.or_true _
  · rw [xm_67]; exact Bool.or_true _
  · rw [xm_68]; exact Bool.or_true _
  · rw [xm_69]; exact Bool.or_true _
  · rw [xm_70]; exact Bool.or_true _
  · rw [xm_71]; exact Bool.or_true _
  · rw [xm_72]; exact Bool.or_true _
  · rw [xm_73]; exact Bool.or_true _
  · rw [xm_74]; exact Bool.or_true _
  · rw [xm_75]; exact Bool.or_true _
  · rw [xm_76]; exact Bool.or_true _
  · rw [xm_77]; exact Bool.or_true _
  · rw [xm_78]; exact Bool.or_true _
  · rw [xm_79]; exact Bool.or_true _
  · rw [xm_80]; exact Bool.or_true _
theorem xh_81 : (List.range' 81 16).all (fun a => !xisM a || xmfb a) = true := by
  rw [List.all_eq_true]
  intro a ha
  rw [List.mem_range'_1] at ha
  have h2 : a = 81 ∨ a = 82 ∨ a = 83 ∨ a = 84 ∨ a = 85 ∨ a = 86 ∨ a = 87 ∨ a = 88 ∨ a = 89 ∨ a = 90 ∨ a = 91 ∨ a = 92 ∨ a = 93 ∨ a = 94 ∨ a = 95 ∨ a = 96 := by omega
  rcases h2 with rfl | rfl | rfl | rfl | rfl | rfl | rfl | rfl | rfl | rfl | rfl | rfl | rfl | rfl | rfl | rfl
  · rw [xm_81]; exact Bool.or_true _
  · rw [xm_82]; exact Bool.or_true _
  · rw [xm_83]; exact Bool.or_true _
  · rw [xm_84]; exact Bool.or_true _
  · rw [xm_85]; exact Bool.or_true _
  · rw [xm_86]; exact Bool.or_true _
  · rw [xm_87]; exact Bool.or_true _
  · rw [xm_88]; exact Bool.or_true _
  · rw [xm_89]; exact Bool.or_true _
  · rw [xm_90]; exact Bool.or_true _
  · rw [xm_91]; exact Bool.or_true _
  · rw [xm_92]; exact Bool.or_true _
  · rw [xm_93]; exact Bool.or_true _
  · rw [xm_94]; exact Bool.or_true _
  · rw [xm_95]; exact Bool.or_true _
  · rw [xm_96]; exact Bool.or_true _
theorem xh_97 : (List.range' 97 16).all (fun a => !xisM a || xmfb a) = true := by
  rw [List.all_eq_true]
  intro a ha
  rw [List.mem_range'_1] at ha
  have h2 : a = 97 ∨ a = 98 ∨ a = 99 ∨ a = 100 ∨ a = 101 ∨ a = 102 ∨ a = 103 ∨ a = 104 ∨ a = 105 ∨ a = 106 ∨ a = 107 ∨ a = 108 ∨ a = 109 ∨ a = 110 ∨ a = 111 ∨ a = 112 := by omega
  rcases h2 with rfl | rfl | rfl | rfl | rfl | rfl | rfl | rfl | rfl | rfl | rfl | rfl | rfl | rfl | rfl | rfl
  · rw [xm_97]; exact Bool.or_true _
  · rw [xm_98]; exact Bool.or_true _
  · rw [xm_99]; exact Bool.or_true _
  · rw [xm_100]; exact Bool.or_true _
  · rw [xm_101]; exact Bool.or_true _
  · rw [xm_102]; exact Bool.or_true _
  · rw [xm_103]; exact Bool.or_true _
  · rw [xm_104]; exact Bool.or_true _
  · rw [xm_105]; exact Bool.or_true _
  · rw [xm_106]; exact Bool.or_true _
  · rw [xm_107]; exact Bool.or_true _
  · rw [xm_108]; exact Bool.or_true _
  · rw [xm_109]; exact Bool.or_true _
  · rw [xm_110]; exact Bool.or_true _
  · rw [xm_111]; exact Bool.or_true _
  · rw [xm_112]; exact Bool.or_true _
theorem xh_113 : (List.range' 113 16).all (fun a => !xisM a || xmfb a) = true := by
  rw [List.all_eq_true]
  intro a ha
  rw [List.mem_range'_1] at ha
  have h2 : a = 113 ∨ a = 114 ∨ a = 115 ∨ a = 116 ∨ a = 117 ∨ a = 118 ∨ a = 119 ∨ a = 120 ∨ a = 121 ∨ a = 122 ∨ a = 123 ∨ a = 124 ∨ a = 125 ∨ a = 126 ∨ a = 127 ∨ a = 128 := by omega
  rcases h2 with rfl | rfl | rfl | rfl | rfl | rfl | rfl | rfl | rfl | rfl | rfl | rfl | rfl | rfl | rfl | rfl
  · rw [xm_113]; exact Bool.or_true _
  · rw [xm_114]; exact Bool.or_true _
  · rw [xm_115]; exact Bool.or_true _
  · rw [xm_116]; exact Bool.or_true _
  · rw [xm_117]; exact Bool.or_true _
  · rw [xm_118]; exact Bool.or_true _
  · rw [xm_119]; exact Bool.or_true _
  · rw [xm_120]; exact Bool.or_true _
  · rw [xm_121]; exact Bool.or_true _
  · rw [xm_122]; exact Bool.or_true _
  · rw [xm_123]; exact Bool.or_true _
  · rw [xm_124]; exact Bool.or_true _
  · rw [xm_125]; exact Bool.or_true _
  · rw [xm_126]; exact Bool.or_true _
  · rw [xm_127]; exact Bool.or_true _
  · rw [xm_128]; exact Bool.or_true _
theorem xh_129 : (List.range' 129 16).all (fun a => !xisM a || xmfb a) = true := by
  rw [List.all_eq_true]
  intro a ha
  rw [List.mem_range'_1] at ha
  have h2 : a = 129 ∨ a = 130 ∨ a = 131 ∨ a = 132 ∨ a = 133 ∨ a = 134 ∨ a = 135 ∨ a = 136 ∨ a = 137 ∨ a = 138 ∨ a = 139 ∨ a = 140 ∨ a = 141 ∨ a = 142 ∨ a = 143 ∨ a = 144 := by omega
  rcases h2 with rfl | rfl | rfl | rfl | rfl | rfl | rfl | rfl | rfl | rfl | rfl | rfl | rfl | rfl | rfl | rfl
  · rw [xm_129]; exact Bool.or_true _
  · rw [xm_130]; exact Bool.or_true _
  · rw [xm_131]; exact Bool.or_true _
  · rw [xm_132]; exact Bool.or_true _
  · rw [xm_133]; exact Bool.or_true _
  · rw [xm_134]; exact Bool.or_true _
  · rw [xm_135]; exact Bool.or_true _
  · rw [xm_136]; exact Bool.or_true _
  · rw [xm_137]; exact Bool.or_true _
  · rw [xm_138]; exact Bool.or_true _
  · rw [xm_139]; exact Bool.or_true _
  · rw [xm_140]; exact Bool.or_true _
  · rw [xm_141]; exact Bool.or_true _
  · rw [xm_142]; exact Bool.or_true _
  · rw [xm_143]; exact Bool.or_true _
  · rw [xm_144]; exact Bool.or_true _
theorem xh_145 : (List.range' 145 16).all (fun a => !xisM a || xmfb a) = true := by
  rw [List.all_eq_true]
  intro a ha
  rw [List.mem_range'_1] at ha
  have h2 : a = 145 ∨ a = 146 ∨ a = 147 ∨ a = 148 ∨ a = 149 ∨ a = 150 ∨ a = 151 ∨ a = 152 ∨ a = 153 ∨ a = 154 ∨ a = 155 ∨ a = 156 ∨ a = 157 ∨ a = 158 ∨ a = 159 ∨ a = 160 := by omega
  rcases h2 with rfl | rfl | rfl | rfl | rfl | rfl | rfl | rfl | rfl | rfl | rfl | rfl | rfl | rfl | rfl | rfl
  · rw [xm_145]; exact Bool.or_true _
  · rw [xm_146]; exact Bool.or_true _
  · rw [xm_147]; exact Bool.or_true _
  · rw [xm_148]; exact Bool.or_true _
  · rw [xm_149]; exact Bool.or_true _
  · rw [xm_150]; exact Bool.or_true _
  · rw [xm_151]; exact Bool.or_true _
  · rw [xm_152]; exact Bool.or_true _
  · rw [xm_153]; exact Bool.or_true _
  · rw [xm_154]; exact Bool.or_true _
  · rw [xm_155]; exact Bool.or_true _
  · rw [xm_156]; exact Bool.or_true _
  · rw [xm_157]; exact Bool.or_true _
  · rw [xm_158]; exact Bool.or_true _
  · rw [xm_159]; exact Bool.or_true _
  · rw [xm_160]; exact Bool.or_true _
theorem xh_161 : (List.range' 161 16).all (fun a => !xisM a || xmfb a) = true := by
  rw [List.all_eq_true]
  intro a ha
  rw [List.mem_range'_1] at ha
  have h2 : a = 161 ∨ a = 162 ∨ a = 163 ∨ a = 164 ∨ a = 165 ∨ a = 166 ∨ a = 167 ∨ a = 168 ∨ a = 169 ∨ a = 170 ∨ a = 171 ∨ a = 172 ∨ a = 173 ∨ a = 174 ∨ a = 175 ∨ a = 176 := by omega
  rcases h2 with rfl | rfl | rfl | rfl | rfl | rfl | rfl | rfl | rfl | rfl | rfl | rfl | rfl | rfl | rfl | rfl
  · rw [xm_161]; exact Bool.or_true _
  · rw [xm_162]; exact Bool.or_true _
  · rw [xm_163]; exact Bool.or_true _
  · rw [xm_164]; exact Bool.or_true _
  · rw [xm_165]; exact Bool.or_true _
  · rw [xm_166]; exact Bool.or_true _
  · rw [xm_167]; exact Bool.or_true _
  · rw [xm_168]; exact Bool.or_true _
  · rw [xm_169]; exact Bool.or_true _
  · rw [xm_170]; exact Bool.or_true _
  · rw [xm_171]; exact Bool.or_true _
  · rw [xm_172]; exact Bool.or_true _
  · rw [xm_173]; exact Bool.or_true _
  · rw [xm_174]; exact Bool.or_true _
  · rw [xm_175]; exact Bool.or_true _
  · rw [xm_176]; exact Bool.or_true _
theorem xh_177 : (List.range' 177 16).all (fun a => !xisM a || xmfb a) = true := by
  rw [List.all_eq_true]
  intro a ha
  rw [List.mem_range'_1] at ha
  have h2 : a = 177 ∨ a = 178 ∨ a = 179 ∨ a = 180 ∨ a = 181 ∨ a = 182 ∨ a = 183 ∨ a = 184 ∨ a = 185 ∨ a = 186 ∨ a = 187 ∨ a = 188 ∨ a = 189 ∨ a = 190 ∨ a = 191 ∨ a = 192 := by omega
  rcases h2 with rfl | rfl | rfl | rfl | rfl | rfl | rfl | rfl | rfl | rfl | rfl | rfl | rfl | rfl | rfl | rfl
  · rw [xm_177]; exact Bool.or_true _
  · rw [xm_178]; exact Bool.or_true _
  · rw [xm_179]; exact Bool.or_true _
  · rw [xm_180]; exact Bool.or_true _
  · rw [xm_181]; exact Bool.or_true _
  · rw [xm_182]; exact Bool.or_true _
  · rw [xm_183]; exact Bool.or_true _
  · rw [xm_184]; exact Bool.or_true _
  · rw [xm_185]; exact Bool.or_true _
  · rw [xm_186]; exact Bool.or_true _
  · rw [xm_187]; exact Bool.or_true _
  · rw [xm_188]; exact Bool.or_true _
  · rw [xm_189]; exact Bool.or_true _
  · rw [xm_190]; exact Bool.or_true _
  · rw [xm_191]; exact Bool.or_true _
  · rw [xm_192]; exact Bool.or_true _
theorem xh_193 : (List.range' 193 16).all (fun a => !xisM a || xmfb a) = true := by
  rw [List.all_eq_true]
  intro a ha
  rw [List.mem_range'_1] at ha
  have h2 : a = 193 ∨ a = 194 ∨ a = 195 ∨ a = 196 ∨ a = 197 ∨ a = 198 ∨ a = 199 ∨ a = 200 ∨ a = 201 ∨ a = 202 ∨ a = 203 ∨ a = 204 ∨ a = 205 ∨ a = 206 ∨ a = 207 ∨ a = 208 := by omega
  rcases h2 with rfl | rfl | rfl | rfl | rfl | rfl | rfl | rfl | rfl | rfl | rfl | rfl | rfl | rfl | rfl | rfl
  · rw [xm_193]; exact Bool.or_true _
  · rw [xm_194]; exact Bool.or_true _
  · rw [xm_195]; exact Bool.or_true _
  · rw [xm_196]; exact Bool.or_true _
  · rw [xm_197]; exact Bool.or_true _
  · rw [xm_198]; exact Bool.or_true _
  · rw [xm_199]; exact Bool.or_true _
  · rw [xm_200]; exact Bool.or_true _
  · rw [xm_201]; exact Bool.or_true _
  · rw [xm_202]; exact Bool.or_true _
  · rw [xm_203]; exact Bool.or_true _
  · rw [xm_204]; exact Bool.or_true _
  · rw [xm_205]; exact Bool.or_true _
  · rw [xm_206]; exact Bool.or_true _
  · rw [xm_207]; exact Bool.or_true _
  · rw [xm_208]; exact Bool.or_true _
theorem xh_209 : (List.range' 209 16).all (fun a => !xisM a || xmfb a) = true := by
  rw [List.all_eq_true]
  intro a ha
  rw [List.mem_range'_1] at ha
  have h2 : a = 209 ∨ a = 210 ∨ a = 211 ∨ a = 212 ∨ a = 213 ∨ a = 214 ∨ a = 215 ∨ a = 216 ∨ a = 217 ∨ a = 218 ∨ a = 219 ∨ a = 220 ∨ a = 221 ∨ a = 222 ∨ a = 223 ∨ a = 224 := by omega
  rcases h2 with rfl | rfl | rfl | rfl | rfl | rfl | rfl | rfl | rfl | rfl | rfl | rfl | rfl | rfl | rfl | rfl
  · rw [xm_209]; exact Bool.or_true _
  · rw [xm_210]; exact Bool.or_true _
  · rw [xm_211]; exact Bool.or_true _
  · rw [xm_212]; exact Bool.or_true _
  · rw [xm_213]; exact Bool.or_true _
  · rw [xm_214]; exact Bool.or_true _
  · rw [xm_215]; exact Bool.or_true _
  · rw [xm_216]; exact Bool.or_true _
  · rw [xm_217]; exact Bool.or_true _
  · rw [xm_218]; exact Bool.or_true _
  · rw [xm_219]; exact Bool.or_true _
  · rw [xm_220]; exact Bool.or_true _
  · rw [xm_221]; exact Bool.or_true _
  · rw [xm_222]; exact Bool.or_true _
  · rw [xm_223]; exact Bool.or_true _
  · rw [xm_224]; exact Bool.or_true _
theorem xh_225 : (List.range' 225 16).all (fun a => !xisM a || xmfb a) = true := by
  rw [List.all_eq_true]
  intro a ha
  rw [List.mem_range'_1] at ha
  have h2 : a = 225 ∨ a = 226 ∨ a = 227 ∨ a = 228 ∨ a = 229 ∨ a = 230 ∨ a = 231 ∨ a = 232 ∨ a = 233 ∨ a = 234 ∨ a = 235 ∨ a = 236 ∨ a = 237 ∨ a = 238 ∨ a = 239 ∨ a = 240 := by omega
  rcases h2 with rfl | rfl | rfl | rfl | rfl | rfl | rfl | rfl | rfl | rfl | rfl | rfl | rfl | rfl | rfl | rfl
  · rw [xm_225]; exact Bool.or_true _
  · rw [xm_226]; exact Bool.or_true _
  · rw [xm_227]; exact Bool.or_true _
  · rw [xm_228]; exact Bool.or_true _
  · rw [xm_229]; exact Bool.or_true _
  · rw [xm_230]; exact Bool.or_true _
  · rw [xm_231]; exact Bool.or_true _
  · rw [xm_232]; exact Bool.or_true _
  · rw [xm_233]; exact Bool.or_true _
  · rw [xm_234]; exact Bool.or_true _
  · rw [xm_235]; exact Bool.or_true _
  · rw [xm_236]; exact Bool.or_true _
  · rw [xm_237]; exact Bool.or_true _
  · rw [xm_238]; exact Bool.or_true _
  · rw [xm_239]; exact Bool.or_true _
  · rw [xm_240]; exact Bool.or_true _
theorem xh_241 : (List.range' 241 16).all (fun a => !xisM a || xmfb a) = true := by
  rw [List.all_eq_true]
  intro a ha
  rw [List.mem_range'_1] at ha
  have h2 : a = 241 ∨ a = 242 ∨ a = 243 ∨ a = 244 ∨ a = 245 ∨ a = 246 ∨ a = 247 ∨ a = 248 ∨ a = 249 ∨ a = 250 ∨ a = 251 ∨ a = 252 ∨ a = 253 ∨ a = 254 ∨ a = 255 ∨ a = 256 := by omega
  rcases h2 with rfl | rfl | rfl | rfl | rfl | rfl | rfl | rfl | rfl | rfl | rfl | rfl | rfl | rfl | rfl | rfl
  · rw [xm_241]; exact Bool.or_true _
  · rw [xm_242]; exact Bool.or_true _
  · rw [xm_243]; exact Bool.or_true _
  · rw [xm_244]; exact Bool.or_true _
  · rw [xm_245]; exact Bool.or_true _
  · rw [xm_246]; exact Bool.or_true _
  · rw [xm_247]; exact Bool.or_true _
  · rw [xm_248]; exact Bool.or_true _
  · rw [xm_249]; exact Bool.or_true _
  · rw [xm_250]; exact Bool.or_true _
  · rw [xm_251]; exact Bool.or_true _
  · rw [xm_252]; exact Bool.or_true _
  · rw [xm_253]; exact Bool.or_true _
  · rw [xm_254]; exact Bool.or_true _
  · rw [xm_255]; exact Bool.or_true _
  · rw [xm_256]; exact Bool.or_true _
theorem xh_257 : (List.range' 257 16).all (fun a => !xisM a || xmfb a) = true := by
  rw [List.all_eq_true]
  intro a ha
  rw [List.mem_range'_1] at ha
  have h2 : a = 257 ∨ a = 258 ∨ a = 259 ∨ a = 260 ∨ a = 261 ∨ a = 262 ∨ a = 263 ∨ a = 264 ∨ a = 265 ∨ a = 266 ∨ a = 267 ∨ a = 268 ∨ a = 269 ∨ a = 270 ∨ a = 271 ∨ a = 272 := by omega
  rcases h2 with rfl | rfl | rfl | rfl | rfl | rfl | rfl | rfl | rfl | rfl | rfl | rfl | rfl | rfl | rfl | rfl
  · rw [xm_257]; exact Bool.or_true _
  · rw [xm_258]; exact Bool.or_true _
  · rw [xm_259]; exact Bool.or_true _
  · rw [xm_260]; exact Bool.or_true _
  · rw [xm_261]; exact Bool.or_true _
  · rw [xm_262]; exact Bool.or_true _
  · rw [xm_263]; exact Bool.or_true _
  · rw [xm_264]; exact Bool.or_true _
  · rw [xm_265]; exact Bool.or_true _
  · rw [xm_266]; exact Bool.or_true _
  · rw [xm_267]; exact Bool.or_true _
  · rw [xm_268]; exact Bool.or_true _
  · rw [xm_269]; exact Bool.or_true _
  · rw [xm_270]; exact Bool.or_true _
  · rw [xm_271]; exact Bool.or_true _
  · rw [xm_272]; exact Bool.or_true _
theorem xh_273 : (List.range' 273 16).all (fun a => !xisM a || xmfb a) = true := by
  rw [List.all_eq_true]
  intro a ha
  rw [List.mem_range'_1] at ha
  have h2 : a = 273 ∨ a = 274 ∨ a = 275 ∨ a = 276 ∨ a = 277 ∨ a = 278 ∨ a = 279 ∨ a = 280 ∨ a = 281 ∨ a = 282 ∨ a = 283 ∨ a = 284 ∨ a = 285 ∨ a = 286 ∨ a = 287 ∨ a = 288 := by omega
  rcases h2 with rfl | rfl | rfl | rfl | rfl | rfl | rfl | rfl | rfl | rfl | rfl | rfl | rfl | rfl | rfl | rfl
  · rw [xm_273]; exact Bool.or_true _
  · rw [xm_274]; exact Bool.or_true _
  · rw [xm_275]; exact Bool.or_true _
  · rw [xm_276]; exact Bool.or_true _
  · rw [xm_277]; exact Bool.or_true _
  · rw [xm_278]; exact Bool.or_true _
  · rw [xm_279]; exact Bool.or_true _
  · rw [xm_280]; exact Bool.or_true _
  · rw [xm_281]; exact Bool.or_true _
  · rw [xm_282]; exact Bool.or_true _
  · rw [xm_283]; exact Bool.or_true _
  · rw [xm_284]; exact Bool.or_true _
  · rw [xm_285]; exact Bool.or_true _
  · rw [xm_286]; exact Bool.or_true _
  · rw [xm_287]; exact Bool.or_true _
  · rw [xm_288]; exact Bool.or_true _
theorem xh_289 : (List.range' 289 16).all (fun a => !xisM a || xmfb a) = true := by
  rw [List.all_eq_true]
  intro a ha
  rw [List.mem_range'_1] at ha
  have h2 : a = 289 ∨ a = 290 ∨ a = 291 ∨ a = 292 ∨ a = 293 ∨ a = 294 ∨ a = 295 ∨ a = 296 ∨ a = 297 ∨ a = 298 ∨ a = 299 ∨ a = 300 ∨ a = 301 ∨ a = 302 ∨ a = 303 ∨ a = 304 := by omega
  rcases h2 with rfl | rfl | rfl | rfl | rfl | rfl | rfl | rfl | rfl | rfl | rfl | rfl | rfl | rfl | rfl | rfl
  · rw [xm_289]; exact Bool.or_true _
  · rw [xm_290]; exact Bool.or_true _
  · rw [xm_291]; exact Bool.or_true _
  · rw [xm_292]; exact Bool.or_true _
  · rw [xm_293]; exact Bool.or_true _
  · rw [xm_294]; exact Bool.or_true _
  · rw [xm_295]; exact Bool.or_true _
  · rw [xm_296]; exact Bool.or_true _
  · rw [xm_297]; exact Bool.or_true _
  · rw [xm_298]; exact Bool.or_true _
  · rw [xm_299]; exact Bool.or_true _
  · rw [xm_300]; exact Bool.or_true _
  · rw [xm_301]; exact Bool.or_true _
  · rw [xm_302]; exact Bool.or_true _
  · rw [xm_303]; exact Bool.or_true _
  · rw [xm_304]; exact Bool.or_true _
theorem xh_305 : (List.range' 305 16).all (fun a => !xisM a || xmfb a) = true := by
  rw [List.all_eq_true]
  intro a ha
  rw [List.mem_range'_1] at ha
  have h2 : a = 305 ∨ a = 306 ∨ a = 307 ∨ a = 308 ∨ a = 309 ∨ a = 310 ∨ a = 311 ∨ a = 312 ∨ a = 313 ∨ a = 314 ∨ a = 315 ∨ a = 316 ∨ a = 317 ∨ a = 318 ∨ a = 319 ∨ a = 320 := by omega
  rcases h2 with rfl | rfl | rfl | rfl | rfl | rfl | rfl | rfl | rfl | rfl | rfl | rfl | rfl | rfl | rfl | rfl
  · rw [xm_305]; exact Bool.or_true _
  · rw [xm_306]; exact Bool.or_true _
  · rw [xm_307]; exact Bool.or_true _
  · rw [xm_308]; exact Bool.or_true _
  · rw [xm_309]; exact Bool.or_true _
  · rw [xm_310]; exact Bool.or_true _
  · rw [xm_311]; exact Bool.or_true _
  · rw [xm_312]; exact Bool.or_true _
  · decide +kernel
  · decide +kernel
  · rw [xm_315]; exact Bool.or_true _
  · rw [xm_316]; exact Bool.or_true _
  · rw [xm_317]; exact Bool.or_true _
  · rw [xm_318]; exact Bool.or_true _
  · rw [xm_319]; exact Bool.or_true _
  · rw [xm_320]; exact Bool.or_true _
theorem xh_321 : (List.range' 321 6).all (fun a => !xisM a || xmfb a) = true := by
  rw [List.all_eq_true]
  intro a ha
  rw [List.mem_range'_1] at ha
  have h2 : a = 321 ∨ a = 322 ∨ a = 323 ∨ a = 324 ∨ a = 325 ∨ a = 326 := by omega
  rcases h2 with rfl | rfl | rfl | rfl | rfl | rfl
  · decide +kernel
  · decide +kernel
  · decide +kernel
  · decide +kernel
  · rw [xm_325]; exact Bool.or_true _
  · rw [xm_326]; exact Bool.or_true _

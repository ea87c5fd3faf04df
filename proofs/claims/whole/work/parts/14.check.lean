/-! EVERY ENTRY FITS ITS INSTRUCTION (written by wip/whole/gen14.py) -/
/-- an entry fits an instruction that needs words of the tables: owner, place, whether it is a constructor's, the method's answer -/
def agl (o pc : Nat) (ini : Bool) (rt : Option FieldType) (ins : Instr) (len op a b : Nat) (z : PV) (q : Nat) : Bool := match ins with
  | .ldc i => decide (op = 0 ∧ len = 2 ∧ q = pc + 2) && (match z with
    | .inl v => cik.contains (o, i, v)
    | .inr (.inr (k, n)) => decide (k = 90) && (match strs[n]? with
      | some t => decide (t.1 = own o ∧ t.2.1 = i)
      | none => false)
    | _ => false)
  | .ldc_w i => decide (op = 0 ∧ len = 3 ∧ q = pc + 3) && (match z with
    | .inl v => cik.contains (o, i, v)
    | _ => false)
  | .ldc2_w i => decide (op = 0 ∧ len = 3 ∧ q = pc + 3) && (match z with
    | .inr (.inl v) => clk2.contains (o, i, v)
    | _ => false)
  | .getstatic i => decide (op = 0 ∧ len = 3 ∧ q = pc + 3 ∧ own o = "java/lang/String" ∧ ((i = 38 ∧ z = .inl 1) ∨ (i = 1053 ∧ z = .inr (.inr (99, 0)))))
  | .getfield i => decide (op = 29 ∧ len = 3 ∧ q = pc + 3) && (if a = 90 then decide (own o = "java/lang/String" ∧ ((b = 0 ∧ i = 9) ∨ (b = 1 ∧ i = 15))) else flk.contains (o, i, a, b))
  | .putfield i => decide (op = 30 ∧ len = 3 ∧ q = pc + 3) && flk.contains (o, i, a, b) && (!fin2 a b || (ini && decide (dcl a b = own o)))
  | .iaload => decide (op = 31 ∧ len = 1 ∧ q = pc + 1 ∧ a = 1)
  | .caload => decide (op = 31 ∧ len = 1 ∧ q = pc + 1 ∧ a = 2)
  | .baload => decide (op = 31 ∧ len = 1 ∧ q = pc + 1 ∧ a = 3)
  | .laload => decide (op = 31 ∧ len = 1 ∧ q = pc + 1 ∧ a = 4)
  | .aaload => decide (op = 31 ∧ len = 1 ∧ q = pc + 1 ∧ a = 5)
  | .iastore => decide (op = 32 ∧ len = 1 ∧ q = pc + 1 ∧ a = 1)
  | .castore => decide (op = 32 ∧ len = 1 ∧ q = pc + 1 ∧ a = 2)
  | .bastore => decide (op = 32 ∧ len = 1 ∧ q = pc + 1 ∧ a = 3)
  | .lastore => decide (op = 32 ∧ len = 1 ∧ q = pc + 1 ∧ a = 4)
  | .aastore => decide (op = 32 ∧ len = 1 ∧ q = pc + 1 ∧ a = 5)
  | .arraylength => decide (op = 33 ∧ len = 1 ∧ q = pc + 1)
  | .tableswitch df lo hi offs => decide (op = 38) && (match tswt[a]? with
    | some (lo2, ts, d2) => decide (lo2 = lo ∧ (pc : Int) + df = (d2 : Int) ∧ (ts.length : Int) = hi - lo + 1 ∧ offs.size = ts.length) && (offs.toList.zip ts).all (fun x => decide ((pc : Int) + x.1 = (x.2 : Int)))
    | none => false)
  | .return_ => decide (op = 35 ∧ len = 1 ∧ rt = none)
  | .ireturn => decide (op = 36 ∧ len = 1 ∧ ((a = 1 ∧ rt = some .int) ∨ (a = 2 ∧ rt = some .boolean) ∨ (a = 3 ∧ rt = some .char) ∨ (a = 4 ∧ rt = some .byte)))
  | .new i => decide (op = 39 ∧ len = 3 ∧ q = pc + 3) && clk.contains (o, i, a)
  | .newarray t => decide (op = 40 ∧ len = 2 ∧ q = pc + 2 ∧ t = atyp (kt a).1)
  | .anewarray i => decide (op = 41 ∧ len = 3 ∧ q = pc + 3) && clk.contains (o, i, rka a)
  | .invokevirtual i => decide (op = 34 ∧ len = 3 ∧ q = pc + 3 ∧ b = np a + 1) && mlk.contains (o, i, a, 0) && (match z with
    | .inr (.inr (K, _)) => decide ((K < 82 ∧ (kt K).1 = 0 ∧ clN K = (yy a).cls) ∨ (K = 90 ∧ (yy a).cls = "java/lang/String"))
    | _ => false)
  | .invokestatic i => decide (len = 3 ∧ q = pc + 3) && ((decide (op = 34 ∧ b = np a) && (mlk.contains (o, i, a, 1) || mlk.contains (o, i, a, 4))) || (decide (op = 46) && ack.contains (o, i)) || (decide (op = 47) && mk_max.contains (o, i)) || (decide (op = 48) && mk_min.contains (o, i)) || decide (op = 45 ∧ o = 19 ∧ b = 6))
  | .invokespecial i => decide (len = 3 ∧ q = pc + 3) && ((decide (op = 34 ∧ b = np a + 1) && (mlk.contains (o, i, a, 2) || mlk.contains (o, i, a, 3)) && (match z with
    | .inr (.inr (K, _)) => decide (K < 82)
    | _ => false)) || (decide (op = 44) && obk.contains (o, i)))
  | _ => false
def chk1 (m : Nat) (x : Nat × Ent) : Bool := x.2.1 == 99 || (match decode (bb m) x.1 with
  | .ok (ins, len) => agb x.1 ins len x.2.1 x.2.2.1 x.2.2.2.1 x.2.2.2.2.1 x.2.2.2.2.2 || agl (mo m) x.1 (decide ((yy m).name = "<init>")) (rr m) ins len x.2.1 x.2.2.1 x.2.2.2.1 x.2.2.2.2.1 x.2.2.2.2.2
  | .error _ => false)
def chkM (m : Nat) : Bool := (ctab.getD m []).all (chk1 m)
theorem chk_0 : chkM 0 = true := by decide +kernel
theorem chk_1 : chkM 1 = true := by decide +kernel
theorem chk_2 : chkM 2 = true := by decide +kernel
theorem chk_3 : chkM 3 = true := by decide +kernel
theorem chk_4 : chkM 4 = true := by decide +kernel
theorem chk_5 : chkM 5 = true := by decide +kernel
theorem chk_6 : chkM 6 = true := by decide +kernel
theorem chk_7 : chkM 7 = true := by decide +kernel
theorem chk_8 : chkM 8 = true := by decide +kernel
theorem chk_9 : chkM 9 = true := by decide +kernel
theorem chk_10 : chkM 10 = true := by decide +kernel
theorem chk_11 : chkM 11 = true := by decide +kernel
theorem chk_12 : chkM 12 = true := by decide +kernel
theorem chk_13 : chkM 13 = true := by decide +kernel
theorem chk_14 : chkM 14 = true := by decide +kernel
theorem chk_15 : chkM 15 = true := by decide +kernel
theorem chk_16 : chkM 16 = true := by decide +kernel
theorem chk_17 : chkM 17 = true := by decide +kernel
theorem chk_18 : chkM 18 = true := by decide +kernel
theorem chk_19 : chkM 19 = true := by decide +kernel
theorem chk_20 : chkM 20 = true := by decide +kernel
theorem chk_21 : chkM 21 = true := by decide +kernel
theorem chk_22 : chkM 22 = true := by decide +kernel
theorem chk_23 : chkM 23 = true := by decide +kernel
theorem chk_24 : chkM 24 = true := by decide +kernel
theorem chk_25 : chkM 25 = true := by decide +kernel
theorem chk_26 : chkM 26 = true := by decide +kernel
theorem chk_27 : chkM 27 = true := by decide +kernel
theorem chk_28 : chkM 28 = true := by decide +kernel
theorem chk_29 : chkM 29 = true := by decide +kernel
theorem chk_30 : chkM 30 = true := by decide +kernel
theorem chk_31 : chkM 31 = true := by decide +kernel
theorem chk_32 : chkM 32 = true := by decide +kernel
theorem chk_33 : chkM 33 = true := by decide +kernel
theorem chk_34 : chkM 34 = true := by decide +kernel
theorem chk_35 : chkM 35 = true := by decide +kernel
theorem chk_36 : chkM 36 = true := by decide +kernel
theorem chk_37 : chkM 37 = true := by decide +kernel
theorem chk_38 : chkM 38 = true := by decide +kernel
theorem chk_39 : chkM 39 = true := by decide +kernel
theorem chk_40 : chkM 40 = true := by decide +kernel
theorem chk_41 : chkM 41 = true := by decide +kernel
theorem chk_42 : chkM 42 = true := by decide +kernel
theorem chk_43 : chkM 43 = true := by decide +kernel
theorem chk_44 : chkM 44 = true := by decide +kernel
theorem chk_45 : chkM 45 = true := by decide +kernel
theorem chk_46 : chkM 46 = true := by decide +kernel
theorem chk_47 : chkM 47 = true := by decide +kernel
theorem chk_48 : chkM 48 = true := by decide +kernel
theorem chk_49 : chkM 49 = true := by decide +kernel
theorem chk_50 : chkM 50 = true := by decide +kernel
theorem chk_51 : chkM 51 = true := by decide +kernel
theorem chk_52 : chkM 52 = true := by decide +kernel
theorem chk_53 : chkM 53 = true := by decide +kernel
theorem chk_54 : chkM 54 = true := by decide +kernel
theorem chk_55 : chkM 55 = true := by decide +kernel
theorem chk_56 : chkM 56 = true := by decide +kernel
theorem chk_57 : chkM 57 = true := by decide +kernel
theorem chk_58 : chkM 58 = true := by decide +kernel
theorem chk_59 : chkM 59 = true := by decide +kernel
theorem chk_60 : chkM 60 = true := by decide +kernel
theorem chk_61 : chkM 61 = true := by decide +kernel
theorem chk_62 : chkM 62 = true := by decide +kernel
theorem chk_63 : chkM 63 = true := by decide +kernel
theorem chk_64 : chkM 64 = true := by decide +kernel
theorem chk_65 : chkM 65 = true := by decide +kernel
theorem chk_66 : chkM 66 = true := by decide +kernel
theorem chk_67 : chkM 67 = true := by decide +kernel
theorem chk_68 : chkM 68 = true := by decide +kernel
theorem chk_69 : chkM 69 = true := by decide +kernel
theorem chk_70 : chkM 70 = true := by decide +kernel
theorem chk_71 : chkM 71 = true := by decide +kernel
theorem chk_72 : chkM 72 = true := by decide +kernel
theorem chk_73 : chkM 73 = true := by decide +kernel
theorem chk_74 : chkM 74 = true := by decide +kernel
theorem chk_75 : chkM 75 = true := by decide +kernel
theorem chk_76 : chkM 76 = true := by decide +kernel
theorem chk_77 : chkM 77 = true := by decide +kernel
theorem chk_78 : chkM 78 = true := by decide +kernel
theorem chk_79 : chkM 79 = true := by decide +kernel
theorem chk_80 : chkM 80 = true := by decide +kernel
theorem chk_81 : chkM 81 = true := by decide +kernel
theorem chk_82 : chkM 82 = true := by decide +kernel
theorem chk_83 : chkM 83 = true := by decide +kernel
theorem chk_84 : chkM 84 = true := by decide +kernel
theorem chk_85 : chkM 85 = true := by decide +kernel
theorem chk_86 : chkM 86 = true := by decide +kernel
theorem chk_87 : chkM 87 = true := by decide +kernel
theorem chk_88 : chkM 88 = true := by decide +kernel
theorem chk_89 : chkM 89 = true := by decide +kernel
theorem chk_90 : chkM 90 = true := by decide +kernel
theorem chk_91 : chkM 91 = true := by decide +kernel
theorem chk_92 : chkM 92 = true := by decide +kernel
theorem chk_93 : chkM 93 = true := by decide +kernel
theorem chk_94 : chkM 94 = true := by decide +kernel
theorem chk_95 : chkM 95 = true := by decide +kernel
theorem chk_96 : chkM 96 = true := by decide +kernel
theorem chk_97 : chkM 97 = true := by decide +kernel
theorem chk_98 : chkM 98 = true := by decide +kernel
theorem chk_99 : chkM 99 = true := by decide +kernel
theorem chk_100 : chkM 100 = true := by decide +kernel
theorem chk_101 : chkM 101 = true := by decide +kernel
theorem chk_102 : chkM 102 = true := by decide +kernel
theorem chk_103 : chkM 103 = true := by decide +kernel
theorem chk_104 : chkM 104 = true := by decide +kernel
theorem chk_105 : chkM 105 = true := by decide +kernel
theorem chk_106 : chkM 106 = true := by decide +kernel
theorem chk_107 : chkM 107 = true := by decide +kernel
theorem chk_108 : chkM 108 = true := by decide +kernel
theorem chk_109 : chkM 109 = true := by decide +kernel
theorem chk_110 : chkM 110 = true := by decide +kernel
theorem chk_111 : chkM 111 = true := by decide +kernel
theorem chk_112 : chkM 112 = true := by decide +kernel
theorem chk_113 : chkM 113 = true := by decide +kernel
theorem chk_114 : chkM 114 = true := by decide +kernel
theorem chk_115 : chkM 115 = true := by decide +kernel
theorem chk_116 : chkM 116 = true := by decide +kernel
theorem chk_117 : chkM 117 = true := by decide +kernel
theorem chk_118 : chkM 118 = true := by decide +kernel
theorem chk_119 : chkM 119 = true := by decide +kernel
theorem chk_120 : chkM 120 = true := by decide +kernel
theorem chk_121 : chkM 121 = true := by decide +kernel
theorem chk_122 : chkM 122 = true := by decide +kernel
theorem chk_123 : chkM 123 = true := by decide +kernel
theorem chk_124 : chkM 124 = true := by decide +kernel
theorem chk_125 : chkM 125 = true := by decide +kernel
theorem chk_126 : chkM 126 = true := by decide +kernel
theorem chk_127 : chkM 127 = true := by decide +kernel
theorem chk_128_0 : (((ctab.getD 128 []).drop 0).take 100).all (chk1 128) = true := by decide +kernel
theorem chk_128_100 : (((ctab.getD 128 []).drop 100).take 100).all (chk1 128) = true := by decide +kernel
theorem chk_128_e : ((ctab.getD 128 []).drop 200).all (chk1 128) = true := by decide +kernel
theorem chk_129 : chkM 129 = true := by decide +kernel
theorem chk_130 : chkM 130 = true := by decide +kernel
theorem chk_131 : chkM 131 = true := by decide +kernel
theorem chk_132 : chkM 132 = true := by decide +kernel
theorem chk_133 : chkM 133 = true := by decide +kernel
theorem chk_134 : chkM 134 = true := by decide +kernel
theorem chk_135_0 : (((ctab.getD 135 []).drop 0).take 100).all (chk1 135) = true := by decide +kernel
theorem chk_135_100 : (((ctab.getD 135 []).drop 100).take 100).all (chk1 135) = true := by decide +kernel
theorem chk_135_e : ((ctab.getD 135 []).drop 200).all (chk1 135) = true := by decide +kernel
theorem chk_136 : chkM 136 = true := by decide +kernel
theorem chk_137 : chkM 137 = true := by decide +kernel
theorem chk_138 : chkM 138 = true := by decide +kernel
theorem chk_139 : chkM 139 = true := by decide +kernel
theorem chk_140 : chkM 140 = true := by decide +kernel
theorem chk_141_0 : (((ctab.getD 141 []).drop 0).take 100).all (chk1 141) = true := by decide +kernel
theorem chk_141_100 : (((ctab.getD 141 []).drop 100).take 100).all (chk1 141) = true := by decide +kernel
theorem chk_141_200 : (((ctab.getD 141 []).drop 200).take 100).all (chk1 141) = true := by decide +kernel
theorem chk_141_e : ((ctab.getD 141 []).drop 300).all (chk1 141) = true := by decide +kernel
theorem chk_142 : chkM 142 = true := by decide +kernel
theorem chk_143 : chkM 143 = true := by decide +kernel
theorem chk_144 : chkM 144 = true := by decide +kernel
theorem chk_145_0 : (((ctab.getD 145 []).drop 0).take 100).all (chk1 145) = true := by decide +kernel
theorem chk_145_100 : (((ctab.getD 145 []).drop 100).take 100).all (chk1 145) = true := by decide +kernel
theorem chk_145_e : ((ctab.getD 145 []).drop 200).all (chk1 145) = true := by decide +kernel
theorem chk_146 : chkM 146 = true := by decide +kernel
theorem chk_147 : chkM 147 = true := by decide +kernel
theorem chk_148 : chkM 148 = true := by decide +kernel
theorem chk_149 : chkM 149 = true := by decide +kernel
theorem chk_150 : chkM 150 = true := by decide +kernel
theorem chk_151 : chkM 151 = true := by decide +kernel
theorem chk_152 : chkM 152 = true := by decide +kernel
theorem chk_153 : chkM 153 = true := by decide +kernel
theorem chk_154 : chkM 154 = true := by decide +kernel
theorem chk_155 : chkM 155 = true := by decide +kernel
theorem chk_156 : chkM 156 = true := by decide +kernel
theorem chk_157 : chkM 157 = true := by decide +kernel
theorem chk_158 : chkM 158 = true := by decide +kernel
theorem chk_159 : chkM 159 = true := by decide +kernel
theorem chk_160 : chkM 160 = true := by decide +kernel
theorem chk_161 : chkM 161 = true := by decide +kernel
theorem chk_162 : chkM 162 = true := by decide +kernel
theorem chk_163 : chkM 163 = true := by decide +kernel
theorem chk_164 : chkM 164 = true := by decide +kernel
theorem chk_165 : chkM 165 = true := by decide +kernel
theorem chk_166 : chkM 166 = true := by decide +kernel
theorem chk_167 : chkM 167 = true := by decide +kernel
theorem chk_168 : chkM 168 = true := by decide +kernel
theorem chk_169_0 : (((ctab.getD 169 []).drop 0).take 100).all (chk1 169) = true := by decide +kernel
theorem chk_169_100 : (((ctab.getD 169 []).drop 100).take 100).all (chk1 169) = true := by decide +kernel
theorem chk_169_e : ((ctab.getD 169 []).drop 200).all (chk1 169) = true := by decide +kernel
theorem chk_170 : chkM 170 = true := by decide +kernel
theorem chk_171 : chkM 171 = true := by decide +kernel
theorem chk_172 : chkM 172 = true := by decide +kernel
theorem chk_173 : chkM 173 = true := by decide +kernel
theorem chk_174 : chkM 174 = true := by decide +kernel
theorem chk_175 : chkM 175 = true := by decide +kernel
theorem chk_176 : chkM 176 = true := by decide +kernel
theorem chk_177 : chkM 177 = true := by decide +kernel
theorem chk_178 : chkM 178 = true := by decide +kernel
theorem chk_179 : chkM 179 = true := by decide +kernel
theorem chk_180 : chkM 180 = true := by decide +kernel
theorem chk_181 : chkM 181 = true := by decide +kernel
theorem chk_182 : chkM 182 = true := by decide +kernel
theorem chk_183 : chkM 183 = true := by decide +kernel
theorem chk_184 : chkM 184 = true := by decide +kernel
theorem chk_185 : chkM 185 = true := by decide +kernel
theorem chk_186 : chkM 186 = true := by decide +kernel
theorem chk_187 : chkM 187 = true := by decide +kernel
theorem chk_188 : chkM 188 = true := by decide +kernel
theorem chk_189 : chkM 189 = true := by decide +kernel
theorem chk_190 : chkM 190 = true := by decide +kernel
theorem chk_191 : chkM 191 = true := by decide +kernel
theorem chk_192 : chkM 192 = true := by decide +kernel
theorem chk_193 : chkM 193 = true := by decide +kernel
theorem chk_194 : chkM 194 = true := by decide +kernel
theorem chk_195 : chkM 195 = true := by decide +kernel
theorem chk_196 : chkM 196 = true := by decide +kernel
theorem chk_197 : chkM 197 = true := by decide +kernel
theorem chk_198 : chkM 198 = true := by decide +kernel
theorem chk_199 : chkM 199 = true := by decide +kernel
theorem chk_200 : chkM 200 = true := by decide +kernel
theorem chk_201 : chkM 201 = true := by decide +kernel
theorem chk_202 : chkM 202 = true := by decide +kernel
theorem chk_203 : chkM 203 = true := by decide +kernel
theorem chk_204 : chkM 204 = true := by decide +kernel
theorem chk_205 : chkM 205 = true := by decide +kernel
theorem chk_206 : chkM 206 = true := by decide +kernel
theorem chk_207 : chkM 207 = true := by decide +kernel
theorem chk_208 : chkM 208 = true := by decide +kernel
theorem chk_209 : chkM 209 = true := by decide +kernel
theorem chk_210 : chkM 210 = true := by decide +kernel
theorem chk_211 : chkM 211 = true := by decide +kernel
theorem chk_212 : chkM 212 = true := by decide +kernel
theorem chk_213 : chkM 213 = true := by decide +kernel
theorem chk_214 : chkM 214 = true := by decide +kernel
theorem chk_215 : chkM 215 = true := by decide +kernel
theorem chk_216 : chkM 216 = true := by decide +kernel
theorem chk_217 : chkM 217 = true := by decide +kernel
theorem chk_218 : chkM 218 = true := by decide +kernel
theorem chk_219 : chkM 219 = true := by decide +kernel
theorem chk_220 : chkM 220 = true := by decide +kernel
theorem chk_221 : chkM 221 = true := by decide +kernel
theorem chk_222 : chkM 222 = true := by decide +kernel
theorem chk_223_0 : (((ctab.getD 223 []).drop 0).take 100).all (chk1 223) = true := by decide +kernel
theorem chk_223_100 : (((ctab.getD 223 []).drop 100).take 100).all (chk1 223) = true := by decide +kernel
theorem chk_223_e : ((ctab.getD 223 []).drop 200).all (chk1 223) = true := by decide +kernel
theorem chk_224 : chkM 224 = true := by decide +kernel
theorem chk_225_0 : (((ctab.getD 225 []).drop 0).take 100).all (chk1 225) = true := by decide +kernel
theorem chk_225_100 : (((ctab.getD 225 []).drop 100).take 100).all (chk1 225) = true := by decide +kernel
theorem chk_225_e : ((ctab.getD 225 []).drop 200).all (chk1 225) = true := by decide +kernel
theorem chk_226 : chkM 226 = true := by decide +kernel
theorem chk_227 : chkM 227 = true := by decide +kernel
theorem chk_228 : chkM 228 = true := by decide +kernel
theorem chk_229 : chkM 229 = true := by decide +kernel
theorem chk_230 : chkM 230 = true := by decide +kernel
theorem chk_231 : chkM 231 = true := by decide +kernel
theorem chk_232 : chkM 232 = true := by decide +kernel
theorem chk_233 : chkM 233 = true := by decide +kernel
theorem chk_234 : chkM 234 = true := by decide +kernel
theorem chk_235 : chkM 235 = true := by decide +kernel
theorem chk_236 : chkM 236 = true := by decide +kernel
theorem chk_237 : chkM 237 = true := by decide +kernel
theorem chk_238 : chkM 238 = true := by decide +kernel
theorem chk_239 : chkM 239 = true := by decide +kernel
theorem chk_240 : chkM 240 = true := by decide +kernel
theorem chk_241 : chkM 241 = true := by decide +kernel
theorem chk_242 : chkM 242 = true := by decide +kernel
theorem chk_243 : chkM 243 = true := by decide +kernel
theorem chk_244 : chkM 244 = true := by decide +kernel
theorem chk_245 : chkM 245 = true := by decide +kernel
theorem chk_246 : chkM 246 = true := by decide +kernel
theorem chk_247 : chkM 247 = true := by decide +kernel
theorem chk_248 : chkM 248 = true := by decide +kernel
theorem chk_249 : chkM 249 = true := by decide +kernel
theorem chk_250 : chkM 250 = true := by decide +kernel
theorem chk_251 : chkM 251 = true := by decide +kernel
theorem chk_252_0 : (((ctab.getD 252 []).drop 0).take 100).all (chk1 252) = true := by decide +kernel
theorem chk_252_100 : (((ctab.getD 252 []).drop 100).take 100).all (chk1 252) = true := by decide +kernel
theorem chk_252_200 : (((ctab.getD 252 []).drop 200).take 100).all (chk1 252) = true := by decide +kernel
theorem chk_252_300 : (((ctab.getD 252 []).drop 300).take 100).all (chk1 252) = true := by decide +kernel
theorem chk_252_400 : (((ctab.getD 252 []).drop 400).take 100).all (chk1 252) = true := by decide +kernel
theorem chk_252_500 : (((ctab.getD 252 []).drop 500).take 100).all (chk1 252) = true := by decide +kernel
theorem chk_252_600 : (((ctab.getD 252 []).drop 600).take 100).all (chk1 252) = true := by decide +kernel
theorem chk_252_700 : (((ctab.getD 252 []).drop 700).take 100).all (chk1 252) = true := by decide +kernel
theorem chk_252_e : ((ctab.getD 252 []).drop 800).all (chk1 252) = true := by decide +kernel

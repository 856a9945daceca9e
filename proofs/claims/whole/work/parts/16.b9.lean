theorem dX9_advance_0 : decode cX9_advance 0 = .ok (.aload_n 0, 1) := by decide +kernel
theorem dX9_advance_1 : decode cX9_advance 1 = .ok (.getfield 34, 3) := by decide +kernel
theorem dX9_advance_4 : decode cX9_advance 4 = .ok (.aload_n 0, 1) := by decide +kernel
theorem dX9_advance_5 : decode cX9_advance 5 = .ok (.getfield 31, 3) := by decide +kernel
theorem dX9_advance_8 : decode cX9_advance 8 = .ok (.if_icmp .ge 31, 3) := by decide +kernel
theorem dX9_advance_11 : decode cX9_advance 11 = .ok (.aload_n 0, 1) := by decide +kernel
theorem dX9_advance_12 : decode cX9_advance 12 = .ok (.getfield 11, 3) := by decide +kernel
theorem dX9_advance_15 : decode cX9_advance 15 = .ok (.aload_n 0, 1) := by decide +kernel
theorem dX9_advance_16 : decode cX9_advance 16 = .ok (.getfield 34, 3) := by decide +kernel
theorem dX9_advance_19 : decode cX9_advance 19 = .ok (.baload, 1) := by decide +kernel
theorem dX9_advance_20 : decode cX9_advance 20 = .ok (.invokestatic 43, 3) := by decide +kernel
theorem dX9_advance_23 : decode cX9_advance 23 = .ok (.ifCond .eq 16, 3) := by decide +kernel
theorem dX9_advance_26 : decode cX9_advance 26 = .ok (.aload_n 0, 1) := by decide +kernel
theorem dX9_advance_27 : decode cX9_advance 27 = .ok (.dup, 1) := by decide +kernel
theorem dX9_advance_28 : decode cX9_advance 28 = .ok (.getfield 34, 3) := by decide +kernel
theorem dX9_advance_31 : decode cX9_advance 31 = .ok (.iconst 1, 1) := by decide +kernel
theorem dX9_advance_32 : decode cX9_advance 32 = .ok (.iadd, 1) := by decide +kernel
theorem dX9_advance_33 : decode cX9_advance 33 = .ok (.putfield 34, 3) := by decide +kernel
theorem dX9_advance_36 : decode cX9_advance 36 = .ok (.goto (-36), 3) := by decide +kernel
theorem dX9_advance_39 : decode cX9_advance 39 = .ok (.aload_n 0, 1) := by decide +kernel
theorem dX9_advance_40 : decode cX9_advance 40 = .ok (.aload_n 0, 1) := by decide +kernel
theorem dX9_advance_41 : decode cX9_advance 41 = .ok (.getfield 34, 3) := by decide +kernel
theorem dX9_advance_44 : decode cX9_advance 44 = .ok (.putfield 47, 3) := by decide +kernel
theorem dX9_advance_47 : decode cX9_advance 47 = .ok (.aload_n 0, 1) := by decide +kernel
theorem dX9_advance_48 : decode cX9_advance 48 = .ok (.getfield 34, 3) := by decide +kernel
theorem dX9_advance_51 : decode cX9_advance 51 = .ok (.aload_n 0, 1) := by decide +kernel
theorem dX9_advance_52 : decode cX9_advance 52 = .ok (.getfield 31, 3) := by decide +kernel
theorem dX9_advance_55 : decode cX9_advance 55 = .ok (.if_icmp .lt 9, 3) := by decide +kernel
theorem dX9_advance_58 : decode cX9_advance 58 = .ok (.aload_n 0, 1) := by decide +kernel
theorem dX9_advance_59 : decode cX9_advance 59 = .ok (.iconst 0, 1) := by decide +kernel
theorem dX9_advance_60 : decode cX9_advance 60 = .ok (.putfield 50, 3) := by decide +kernel
theorem dX9_advance_63 : decode cX9_advance 63 = .ok (.return_, 1) := by decide +kernel
theorem dX9_advance_64 : decode cX9_advance 64 = .ok (.aload_n 0, 1) := by decide +kernel
theorem dX9_advance_65 : decode cX9_advance 65 = .ok (.getfield 11, 3) := by decide +kernel
theorem dX9_advance_68 : decode cX9_advance 68 = .ok (.aload_n 0, 1) := by decide +kernel
theorem dX9_advance_69 : decode cX9_advance 69 = .ok (.getfield 34, 3) := by decide +kernel
theorem dX9_advance_72 : decode cX9_advance 72 = .ok (.baload, 1) := by decide +kernel
theorem dX9_advance_73 : decode cX9_advance 73 = .ok (.istore_n 1, 1) := by decide +kernel
theorem dX9_advance_74 : decode cX9_advance 74 = .ok (.aload_n 0, 1) := by decide +kernel
theorem dX9_advance_75 : decode cX9_advance 75 = .ok (.dup, 1) := by decide +kernel
theorem dX9_advance_76 : decode cX9_advance 76 = .ok (.getfield 34, 3) := by decide +kernel
theorem dX9_advance_79 : decode cX9_advance 79 = .ok (.iconst 1, 1) := by decide +kernel
theorem dX9_advance_80 : decode cX9_advance 80 = .ok (.iadd, 1) := by decide +kernel
theorem dX9_advance_81 : decode cX9_advance 81 = .ok (.putfield 34, 3) := by decide +kernel
theorem dX9_advance_84 : decode cX9_advance 84 = .ok (.iload_n 1, 1) := by decide +kernel
theorem dX9_advance_85 : decode cX9_advance 85 = .ok (.invokestatic 53, 3) := by decide +kernel
theorem dX9_advance_88 : decode cX9_advance 88 = .ok (.ifCond .eq 47, 3) := by decide +kernel
theorem dX9_advance_91 : decode cX9_advance 91 = .ok (.aload_n 0, 1) := by decide +kernel
theorem dX9_advance_92 : decode cX9_advance 92 = .ok (.iconst 1, 1) := by decide +kernel
theorem dX9_advance_93 : decode cX9_advance 93 = .ok (.putfield 50, 3) := by decide +kernel
theorem dX9_advance_96 : decode cX9_advance 96 = .ok (.aload_n 0, 1) := by decide +kernel
theorem dX9_advance_97 : decode cX9_advance 97 = .ok (.getfield 34, 3) := by decide +kernel
theorem dX9_advance_100 : decode cX9_advance 100 = .ok (.aload_n 0, 1) := by decide +kernel
theorem dX9_advance_101 : decode cX9_advance 101 = .ok (.getfield 31, 3) := by decide +kernel
theorem dX9_advance_104 : decode cX9_advance 104 = .ok (.if_icmp .ge 170, 3) := by decide +kernel
theorem dX9_advance_107 : decode cX9_advance 107 = .ok (.aload_n 0, 1) := by decide +kernel
theorem dX9_advance_108 : decode cX9_advance 108 = .ok (.getfield 11, 3) := by decide +kernel
theorem dX9_advance_111 : decode cX9_advance 111 = .ok (.aload_n 0, 1) := by decide +kernel
theorem dX9_advance_112 : decode cX9_advance 112 = .ok (.getfield 34, 3) := by decide +kernel
theorem dX9_advance_115 : decode cX9_advance 115 = .ok (.baload, 1) := by decide +kernel
theorem dX9_advance_116 : decode cX9_advance 116 = .ok (.invokestatic 53, 3) := by decide +kernel
theorem dX9_advance_119 : decode cX9_advance 119 = .ok (.ifCond .eq 155, 3) := by decide +kernel
theorem dX9_advance_122 : decode cX9_advance 122 = .ok (.aload_n 0, 1) := by decide +kernel
theorem dX9_advance_123 : decode cX9_advance 123 = .ok (.dup, 1) := by decide +kernel
theorem dX9_advance_124 : decode cX9_advance 124 = .ok (.getfield 34, 3) := by decide +kernel
theorem dX9_advance_127 : decode cX9_advance 127 = .ok (.iconst 1, 1) := by decide +kernel
theorem dX9_advance_128 : decode cX9_advance 128 = .ok (.iadd, 1) := by decide +kernel
theorem dX9_advance_129 : decode cX9_advance 129 = .ok (.putfield 34, 3) := by decide +kernel
theorem dX9_advance_132 : decode cX9_advance 132 = .ok (.goto (-36), 3) := by decide +kernel
theorem dX9_advance_135 : decode cX9_advance 135 = .ok (.iload_n 1, 1) := by decide +kernel
theorem dX9_advance_136 : decode cX9_advance 136 = .ok (.invokestatic 56, 3) := by decide +kernel
theorem dX9_advance_139 : decode cX9_advance 139 = .ok (.ifCond .eq 125, 3) := by decide +kernel
theorem dX9_advance_142 : decode cX9_advance 142 = .ok (.aload_n 0, 1) := by decide +kernel
theorem dX9_advance_143 : decode cX9_advance 143 = .ok (.iconst 2, 1) := by decide +kernel
theorem dX9_advance_144 : decode cX9_advance 144 = .ok (.putfield 50, 3) := by decide +kernel
theorem dX9_advance_147 : decode cX9_advance 147 = .ok (.aload_n 0, 1) := by decide +kernel
theorem dX9_advance_148 : decode cX9_advance 148 = .ok (.iload_n 1, 1) := by decide +kernel
theorem dX9_advance_149 : decode cX9_advance 149 = .ok (.bipush 48, 2) := by decide +kernel
theorem dX9_advance_151 : decode cX9_advance 151 = .ok (.isub, 1) := by decide +kernel
theorem dX9_advance_152 : decode cX9_advance 152 = .ok (.putfield 59, 3) := by decide +kernel
theorem dX9_advance_155 : decode cX9_advance 155 = .ok (.aload_n 0, 1) := by decide +kernel
theorem dX9_advance_156 : decode cX9_advance 156 = .ok (.getfield 34, 3) := by decide +kernel
theorem dX9_advance_159 : decode cX9_advance 159 = .ok (.aload_n 0, 1) := by decide +kernel
theorem dX9_advance_160 : decode cX9_advance 160 = .ok (.getfield 31, 3) := by decide +kernel
theorem dX9_advance_163 : decode cX9_advance 163 = .ok (.if_icmp .ge 71, 3) := by decide +kernel
theorem dX9_advance_166 : decode cX9_advance 166 = .ok (.aload_n 0, 1) := by decide +kernel
theorem dX9_advance_167 : decode cX9_advance 167 = .ok (.getfield 11, 3) := by decide +kernel
theorem dX9_advance_170 : decode cX9_advance 170 = .ok (.aload_n 0, 1) := by decide +kernel
theorem dX9_advance_171 : decode cX9_advance 171 = .ok (.getfield 34, 3) := by decide +kernel
theorem dX9_advance_174 : decode cX9_advance 174 = .ok (.baload, 1) := by decide +kernel
theorem dX9_advance_175 : decode cX9_advance 175 = .ok (.invokestatic 56, 3) := by decide +kernel
theorem dX9_advance_178 : decode cX9_advance 178 = .ok (.ifCond .eq 56, 3) := by decide +kernel
theorem dX9_advance_181 : decode cX9_advance 181 = .ok (.aload_n 0, 1) := by decide +kernel
theorem dX9_advance_182 : decode cX9_advance 182 = .ok (.aload_n 0, 1) := by decide +kernel
theorem dX9_advance_183 : decode cX9_advance 183 = .ok (.getfield 59, 3) := by decide +kernel
theorem dX9_advance_186 : decode cX9_advance 186 = .ok (.sipush 1000, 3) := by decide +kernel
theorem dX9_advance_189 : decode cX9_advance 189 = .ok (.if_icmp .ge 26, 3) := by decide +kernel
theorem dX9_advance_192 : decode cX9_advance 192 = .ok (.bipush 10, 2) := by decide +kernel
theorem dX9_advance_194 : decode cX9_advance 194 = .ok (.aload_n 0, 1) := by decide +kernel
theorem dX9_advance_195 : decode cX9_advance 195 = .ok (.getfield 59, 3) := by decide +kernel
theorem dX9_advance_198 : decode cX9_advance 198 = .ok (.imul, 1) := by decide +kernel
theorem dX9_advance_199 : decode cX9_advance 199 = .ok (.aload_n 0, 1) := by decide +kernel
theorem dX9_advance_200 : decode cX9_advance 200 = .ok (.getfield 11, 3) := by decide +kernel
theorem dX9_advance_203 : decode cX9_advance 203 = .ok (.aload_n 0, 1) := by decide +kernel
theorem dX9_advance_204 : decode cX9_advance 204 = .ok (.getfield 34, 3) := by decide +kernel
theorem dX9_advance_207 : decode cX9_advance 207 = .ok (.baload, 1) := by decide +kernel
theorem dX9_advance_208 : decode cX9_advance 208 = .ok (.iadd, 1) := by decide +kernel
theorem dX9_advance_209 : decode cX9_advance 209 = .ok (.bipush 48, 2) := by decide +kernel
theorem dX9_advance_211 : decode cX9_advance 211 = .ok (.isub, 1) := by decide +kernel
theorem dX9_advance_212 : decode cX9_advance 212 = .ok (.goto 6, 3) := by decide +kernel
theorem dX9_advance_215 : decode cX9_advance 215 = .ok (.sipush 1000, 3) := by decide +kernel
theorem dX9_advance_218 : decode cX9_advance 218 = .ok (.putfield 59, 3) := by decide +kernel
theorem dX9_advance_221 : decode cX9_advance 221 = .ok (.aload_n 0, 1) := by decide +kernel
theorem dX9_advance_222 : decode cX9_advance 222 = .ok (.dup, 1) := by decide +kernel
theorem dX9_advance_223 : decode cX9_advance 223 = .ok (.getfield 34, 3) := by decide +kernel
theorem dX9_advance_226 : decode cX9_advance 226 = .ok (.iconst 1, 1) := by decide +kernel
theorem dX9_advance_227 : decode cX9_advance 227 = .ok (.iadd, 1) := by decide +kernel
theorem dX9_advance_228 : decode cX9_advance 228 = .ok (.putfield 34, 3) := by decide +kernel
theorem dX9_advance_231 : decode cX9_advance 231 = .ok (.goto (-76), 3) := by decide +kernel
theorem dX9_advance_234 : decode cX9_advance 234 = .ok (.aload_n 0, 1) := by decide +kernel
theorem dX9_advance_235 : decode cX9_advance 235 = .ok (.aload_n 0, 1) := by decide +kernel
theorem dX9_advance_236 : decode cX9_advance 236 = .ok (.getfield 34, 3) := by decide +kernel
theorem dX9_advance_239 : decode cX9_advance 239 = .ok (.aload_n 0, 1) := by decide +kernel
theorem dX9_advance_240 : decode cX9_advance 240 = .ok (.getfield 47, 3) := by decide +kernel
theorem dX9_advance_243 : decode cX9_advance 243 = .ok (.isub, 1) := by decide +kernel
theorem dX9_advance_244 : decode cX9_advance 244 = .ok (.iconst 3, 1) := by decide +kernel
theorem dX9_advance_245 : decode cX9_advance 245 = .ok (.if_icmp .le 9, 3) := by decide +kernel
theorem dX9_advance_248 : decode cX9_advance 248 = .ok (.sipush 1000, 3) := by decide +kernel
theorem dX9_advance_251 : decode cX9_advance 251 = .ok (.goto 7, 3) := by decide +kernel
theorem dX9_advance_254 : decode cX9_advance 254 = .ok (.aload_n 0, 1) := by decide +kernel
theorem dX9_advance_255 : decode cX9_advance 255 = .ok (.getfield 59, 3) := by decide +kernel
theorem dX9_advance_258 : decode cX9_advance 258 = .ok (.putfield 59, 3) := by decide +kernel
theorem dX9_advance_261 : decode cX9_advance 261 = .ok (.goto 13, 3) := by decide +kernel
theorem dX9_advance_264 : decode cX9_advance 264 = .ok (.aload_n 0, 1) := by decide +kernel
theorem dX9_advance_265 : decode cX9_advance 265 = .ok (.iconst 3, 1) := by decide +kernel
theorem dX9_advance_266 : decode cX9_advance 266 = .ok (.putfield 50, 3) := by decide +kernel
theorem dX9_advance_269 : decode cX9_advance 269 = .ok (.aload_n 0, 1) := by decide +kernel
theorem dX9_advance_270 : decode cX9_advance 270 = .ok (.iload_n 1, 1) := by decide +kernel
theorem dX9_advance_271 : decode cX9_advance 271 = .ok (.putfield 59, 3) := by decide +kernel
theorem dX9_advance_274 : decode cX9_advance 274 = .ok (.return_, 1) := by decide +kernel
theorem bX9_advance_0 {G : GX} {h : mH} {Q : mO → mH → Prop} (hi : Iv h) (K : ((gI h 1 5) ≤ (gI h 1 6) → Vw G jX9_advance 39 [some (.ref 1), none] [] h Q) ∧ (¬ (gI h 1 5) ≤ (gI h 1 6) → (vp_in (gI h 1 6) 400 ∧ (((fX9_isBlank (gI h 2 (Int32.toNatClampNeg (gI h 1 6)))) = 0 → Vw G jX9_advance 39 [some (.ref 1), none] [] h Q) ∧ (¬ (fX9_isBlank (gI h 2 (Int32.toNatClampNeg (gI h 1 6)))) = 0 → Vw G jX9_advance 0 [some (.ref 1), none] [] (pI h 1 6 ((gI h 1 6) + 1)) Q))))) : Vw G jX9_advance 0 [some (.ref 1), none] [] h Q :=
  s_aload_n dX9_advance_0 rfl (s_getI dX9_advance_1 flX9_34 (Or.inl rfl) (hi.sh rfl rfl) (s_aload_n dX9_advance_4 rfl (s_getI dX9_advance_5 flX9_31 (Or.inl rfl) (hi.sh rfl rfl) (s_icmp_ge 39 dX9_advance_8 rfl (fun q4 => (K.1 q4)) (fun q4 => s_aload_n dX9_advance_11 rfl (s_getR (v := .ref 2) dX9_advance_12 flX9_11 rfl (hi.sh rfl rfl) (hi.rf (o := 1) (k := 0) (d := 1) rfl rfl) (s_aload_n dX9_advance_15 rfl (s_getI dX9_advance_16 flX9_34 (Or.inl rfl) (hi.sh rfl rfl) (s_baload dX9_advance_19 (hi.sh rfl rfl) (K.2 q4).1 (s_callS (As := [.int (gI h 2 (Int32.toNatClampNeg (gI h 1 6)))]) dX9_advance_20 rfl lsX9_43 ⟨Nat.le_of_ble_eq_true rfl, Nat.le_of_ble_eq_true rfl⟩ rfl (Nat.le_of_ble_eq_true rfl) (mX9_isBlank   (s_if_eq 39 dX9_advance_23 rfl (fun q11 => ((K.2 q4).2.1 q11)) (fun q11 => s_aload_n dX9_advance_26 rfl (s_dupr dX9_advance_27 (s_getI dX9_advance_28 flX9_34 (Or.inl rfl) (hi.sh rfl rfl) (s_iconst 1 dX9_advance_31 (by decide) (s_iadd dX9_advance_32 (s_putI dX9_advance_33 flX9_34 ff8_6 rfl (hi.sh rfl rfl) (s_goto 0 dX9_advance_36 rfl (((K.2 q4).2.2 q11)))))))))))))))))))))
theorem bX9_advance_39 {G : GX} {h : mH} {Q : mO → mH → Prop} (hi : Iv h) (K : ((gI (pI h 1 8 (gI h 1 6)) 1 6) < (gI (pI h 1 8 (gI h 1 6)) 1 5) → (vp_in (gI (pI h 1 8 (gI h 1 6)) 1 6) 400 ∧ (((fX9_isLetter (gI (pI h 1 8 (gI h 1 6)) 2 (Int32.toNatClampNeg (gI (pI h 1 8 (gI h 1 6)) 1 6)))) = 0 → (((fX9_isDigit (gI (pI h 1 8 (gI h 1 6)) 2 (Int32.toNatClampNeg (gI (pI h 1 8 (gI h 1 6)) 1 6)))) = 0 → Q (.inl none) (pI (pI (pI (pI h 1 8 (gI h 1 6)) 1 6 ((gI (pI h 1 8 (gI h 1 6)) 1 6) + 1)) 1 7 3) 1 9 (gI (pI h 1 8 (gI h 1 6)) 2 (Int32.toNatClampNeg (gI (pI h 1 8 (gI h 1 6)) 1 6))))) ∧ (¬ (fX9_isDigit (gI (pI h 1 8 (gI h 1 6)) 2 (Int32.toNatClampNeg (gI (pI h 1 8 (gI h 1 6)) 1 6)))) = 0 → Vw G jX9_advance 155 [some (.ref 1), none] [] (pI (pI (pI (pI h 1 8 (gI h 1 6)) 1 6 ((gI (pI h 1 8 (gI h 1 6)) 1 6) + 1)) 1 7 2) 1 9 ((gI (pI h 1 8 (gI h 1 6)) 2 (Int32.toNatClampNeg (gI (pI h 1 8 (gI h 1 6)) 1 6))) - 48)) Q))) ∧ (¬ (fX9_isLetter (gI (pI h 1 8 (gI h 1 6)) 2 (Int32.toNatClampNeg (gI (pI h 1 8 (gI h 1 6)) 1 6)))) = 0 → Vw G jX9_advance 96 [some (.ref 1), none] [] (pI (pI (pI h 1 8 (gI h 1 6)) 1 6 ((gI (pI h 1 8 (gI h 1 6)) 1 6) + 1)) 1 7 1) Q)))) ∧ (¬ (gI (pI h 1 8 (gI h 1 6)) 1 6) < (gI (pI h 1 8 (gI h 1 6)) 1 5) → Q (.inl none) (pI (pI h 1 8 (gI h 1 6)) 1 7 0))) : Vw G jX9_advance 39 [some (.ref 1), none] [] h Q :=
  s_aload_n dX9_advance_39 rfl (s_aload_n dX9_advance_40 rfl (s_getI dX9_advance_41 flX9_34 (Or.inl rfl) (hi.sh rfl rfl) (s_putI dX9_advance_44 flX9_47 ff8_8 rfl (hi.sh rfl rfl) (s_aload_n dX9_advance_47 rfl (s_getI dX9_advance_48 flX9_34 (Or.inl rfl) (hi.sh rfl rfl) (s_aload_n dX9_advance_51 rfl (s_getI dX9_advance_52 flX9_31 (Or.inl rfl) (hi.sh rfl rfl) (s_icmp_lt 64 dX9_advance_55 rfl (fun q8 => s_aload_n dX9_advance_64 rfl (s_getR (v := .ref 2) dX9_advance_65 flX9_11 rfl (hi.sh rfl rfl) (hi.rf (o := 1) (k := 0) (d := 1) rfl rfl) (s_aload_n dX9_advance_68 rfl (s_getI dX9_advance_69 flX9_34 (Or.inl rfl) (hi.sh rfl rfl) (s_baload dX9_advance_72 (hi.sh rfl rfl) (K.1 q8).1 (s_istore_n dX9_advance_73 (Nat.le_of_ble_eq_true rfl) rfl (s_aload_n dX9_advance_74 rfl (s_dupr dX9_advance_75 (s_getI dX9_advance_76 flX9_34 (Or.inl rfl) (hi.sh rfl rfl) (s_iconst 1 dX9_advance_79 (by decide) (s_iadd dX9_advance_80 (s_putI dX9_advance_81 flX9_34 ff8_6 rfl (hi.sh rfl rfl) (s_iload_n dX9_advance_84 rfl (s_callS (As := [.int (gI (pI h 1 8 (gI h 1 6)) 2 (Int32.toNatClampNeg (gI (pI h 1 8 (gI h 1 6)) 1 6)))]) dX9_advance_85 rfl lsX9_53 ⟨Nat.le_of_ble_eq_true rfl, Nat.le_of_ble_eq_true rfl⟩ rfl (Nat.le_of_ble_eq_true rfl) (mX9_isLetter   (s_if_eq 135 dX9_advance_88 rfl (fun q23 => s_iload_n dX9_advance_135 rfl (s_callS (As := [.int (gI (pI h 1 8 (gI h 1 6)) 2 (Int32.toNatClampNeg (gI (pI h 1 8 (gI h 1 6)) 1 6)))]) dX9_advance_136 rfl lsX9_56 ⟨Nat.le_of_ble_eq_true rfl, Nat.le_of_ble_eq_true rfl⟩ rfl (Nat.le_of_ble_eq_true rfl) (mX9_isDigit   (s_if_eq 264 dX9_advance_139 rfl (fun q26 => s_aload_n dX9_advance_264 rfl (s_iconst 3 dX9_advance_265 (by decide) (s_putI dX9_advance_266 flX9_50 ff8_7 rfl (hi.sh rfl rfl) (s_aload_n dX9_advance_269 rfl (s_iload_n dX9_advance_270 rfl (s_putI dX9_advance_271 flX9_59 ff8_9 rfl (hi.sh rfl rfl) (s_return dX9_advance_274 rfl (((K.1 q8).2.1 q23).1 q26)))))))) (fun q26 => s_aload_n dX9_advance_142 rfl (s_iconst 2 dX9_advance_143 (by decide) (s_putI dX9_advance_144 flX9_50 ff8_7 rfl (hi.sh rfl rfl) (s_aload_n dX9_advance_147 rfl (s_iload_n dX9_advance_148 rfl (s_bipush 48 dX9_advance_149 (by decide) (s_isub dX9_advance_151 (s_putI dX9_advance_152 flX9_59 ff8_9 rfl (hi.sh rfl rfl) (Vw.mask [true, false] ((((K.1 q8).2.1 q23).2 q26))))))))))))))) (fun q23 => s_aload_n dX9_advance_91 rfl (s_iconst 1 dX9_advance_92 (by decide) (s_putI dX9_advance_93 flX9_50 ff8_7 rfl (hi.sh rfl rfl) (Vw.mask [true, false] (((K.1 q8).2.2 q23)))))))))))))))))))))) (fun q8 => s_aload_n dX9_advance_58 rfl (s_iconst 0 dX9_advance_59 (by decide) (s_putI dX9_advance_60 flX9_50 ff8_7 rfl (hi.sh rfl rfl) (s_return dX9_advance_63 rfl (K.2 q8)))))))))))))
theorem bX9_advance_96 {G : GX} {h : mH} {Q : mO → mH → Prop} (hi : Iv h) (K : ((gI h 1 5) ≤ (gI h 1 6) → Q (.inl none) h) ∧ (¬ (gI h 1 5) ≤ (gI h 1 6) → (vp_in (gI h 1 6) 400 ∧ (((fX9_isLetter (gI h 2 (Int32.toNatClampNeg (gI h 1 6)))) = 0 → Q (.inl none) h) ∧ (¬ (fX9_isLetter (gI h 2 (Int32.toNatClampNeg (gI h 1 6)))) = 0 → Vw G jX9_advance 96 [some (.ref 1), none] [] (pI h 1 6 ((gI h 1 6) + 1)) Q))))) : Vw G jX9_advance 96 [some (.ref 1), none] [] h Q :=
  s_aload_n dX9_advance_96 rfl (s_getI dX9_advance_97 flX9_34 (Or.inl rfl) (hi.sh rfl rfl) (s_aload_n dX9_advance_100 rfl (s_getI dX9_advance_101 flX9_31 (Or.inl rfl) (hi.sh rfl rfl) (s_icmp_ge 274 dX9_advance_104 rfl (fun q4 => s_return dX9_advance_274 rfl (K.1 q4)) (fun q4 => s_aload_n dX9_advance_107 rfl (s_getR (v := .ref 2) dX9_advance_108 flX9_11 rfl (hi.sh rfl rfl) (hi.rf (o := 1) (k := 0) (d := 1) rfl rfl) (s_aload_n dX9_advance_111 rfl (s_getI dX9_advance_112 flX9_34 (Or.inl rfl) (hi.sh rfl rfl) (s_baload dX9_advance_115 (hi.sh rfl rfl) (K.2 q4).1 (s_callS (As := [.int (gI h 2 (Int32.toNatClampNeg (gI h 1 6)))]) dX9_advance_116 rfl lsX9_53 ⟨Nat.le_of_ble_eq_true rfl, Nat.le_of_ble_eq_true rfl⟩ rfl (Nat.le_of_ble_eq_true rfl) (mX9_isLetter   (s_if_eq 274 dX9_advance_119 rfl (fun q11 => s_return dX9_advance_274 rfl ((K.2 q4).2.1 q11)) (fun q11 => s_aload_n dX9_advance_122 rfl (s_dupr dX9_advance_123 (s_getI dX9_advance_124 flX9_34 (Or.inl rfl) (hi.sh rfl rfl) (s_iconst 1 dX9_advance_127 (by decide) (s_iadd dX9_advance_128 (s_putI dX9_advance_129 flX9_34 ff8_6 rfl (hi.sh rfl rfl) (s_goto 96 dX9_advance_132 rfl (((K.2 q4).2.2 q11)))))))))))))))))))))
theorem bX9_advance_155 {G : GX} {h : mH} {Q : mO → mH → Prop} (hi : Iv h) (K : ((gI h 1 5) ≤ (gI h 1 6) → Vw G jX9_advance 234 [some (.ref 1), none] [] h Q) ∧ (¬ (gI h 1 5) ≤ (gI h 1 6) → (vp_in (gI h 1 6) 400 ∧ (((fX9_isDigit (gI h 2 (Int32.toNatClampNeg (gI h 1 6)))) = 0 → Vw G jX9_advance 234 [some (.ref 1), none] [] h Q) ∧ (¬ (fX9_isDigit (gI h 2 (Int32.toNatClampNeg (gI h 1 6)))) = 0 → ((1000 ≤ (gI h 1 9) → Vw G jX9_advance 155 [some (.ref 1), none] [] (pI (pI h 1 9 1000) 1 6 ((gI (pI h 1 9 1000) 1 6) + 1)) Q) ∧ (¬ 1000 ≤ (gI h 1 9) → (vp_in (gI h 1 6) 400 ∧ Vw G jX9_advance 155 [some (.ref 1), none] [] (pI (pI h 1 9 (((10 * (gI h 1 9)) + (gI h 2 (Int32.toNatClampNeg (gI h 1 6)))) - 48)) 1 6 ((gI (pI h 1 9 (((10 * (gI h 1 9)) + (gI h 2 (Int32.toNatClampNeg (gI h 1 6)))) - 48)) 1 6) + 1)) Q)))))))) : Vw G jX9_advance 155 [some (.ref 1), none] [] h Q :=
  s_aload_n dX9_advance_155 rfl (s_getI dX9_advance_156 flX9_34 (Or.inl rfl) (hi.sh rfl rfl) (s_aload_n dX9_advance_159 rfl (s_getI dX9_advance_160 flX9_31 (Or.inl rfl) (hi.sh rfl rfl) (s_icmp_ge 234 dX9_advance_163 rfl (fun q4 => (K.1 q4)) (fun q4 => s_aload_n dX9_advance_166 rfl (s_getR (v := .ref 2) dX9_advance_167 flX9_11 rfl (hi.sh rfl rfl) (hi.rf (o := 1) (k := 0) (d := 1) rfl rfl) (s_aload_n dX9_advance_170 rfl (s_getI dX9_advance_171 flX9_34 (Or.inl rfl) (hi.sh rfl rfl) (s_baload dX9_advance_174 (hi.sh rfl rfl) (K.2 q4).1 (s_callS (As := [.int (gI h 2 (Int32.toNatClampNeg (gI h 1 6)))]) dX9_advance_175 rfl lsX9_56 ⟨Nat.le_of_ble_eq_true rfl, Nat.le_of_ble_eq_true rfl⟩ rfl (Nat.le_of_ble_eq_true rfl) (mX9_isDigit   (s_if_eq 234 dX9_advance_178 rfl (fun q11 => ((K.2 q4).2.1 q11)) (fun q11 => s_aload_n dX9_advance_181 rfl (s_aload_n dX9_advance_182 rfl (s_getI dX9_advance_183 flX9_59 (Or.inl rfl) (hi.sh rfl rfl) (s_sipush 1000 dX9_advance_186 (by decide) (s_icmp_ge 215 dX9_advance_189 rfl (fun q16 => s_sipush 1000 dX9_advance_215 (by decide) (s_putI dX9_advance_218 flX9_59 ff8_9 rfl (hi.sh rfl rfl) (s_aload_n dX9_advance_221 rfl (s_dupr dX9_advance_222 (s_getI dX9_advance_223 flX9_34 (Or.inl rfl) (hi.sh rfl rfl) (s_iconst 1 dX9_advance_226 (by decide) (s_iadd dX9_advance_227 (s_putI dX9_advance_228 flX9_34 ff8_6 rfl (hi.sh rfl rfl) (s_goto 155 dX9_advance_231 rfl ((((K.2 q4).2.2 q11).1 q16))))))))))) (fun q16 => s_bipush 10 dX9_advance_192 (by decide) (s_aload_n dX9_advance_194 rfl (s_getI dX9_advance_195 flX9_59 (Or.inl rfl) (hi.sh rfl rfl) (s_imul dX9_advance_198 (s_aload_n dX9_advance_199 rfl (s_getR (v := .ref 2) dX9_advance_200 flX9_11 rfl (hi.sh rfl rfl) (hi.rf (o := 1) (k := 0) (d := 1) rfl rfl) (s_aload_n dX9_advance_203 rfl (s_getI dX9_advance_204 flX9_34 (Or.inl rfl) (hi.sh rfl rfl) (s_baload dX9_advance_207 (hi.sh rfl rfl) (((K.2 q4).2.2 q11).2 q16).1 (s_iadd dX9_advance_208 (s_bipush 48 dX9_advance_209 (by decide) (s_isub dX9_advance_211 (s_goto 218 dX9_advance_212 rfl (s_putI dX9_advance_218 flX9_59 ff8_9 rfl (hi.sh rfl rfl) (s_aload_n dX9_advance_221 rfl (s_dupr dX9_advance_222 (s_getI dX9_advance_223 flX9_34 (Or.inl rfl) (hi.sh rfl rfl) (s_iconst 1 dX9_advance_226 (by decide) (s_iadd dX9_advance_227 (s_putI dX9_advance_228 flX9_34 ff8_6 rfl (hi.sh rfl rfl) (s_goto 155 dX9_advance_231 rfl ((((K.2 q4).2.2 q11).2 q16).2)))))))))))))))))))))))))))))))))))))))
theorem bX9_advance_234 {G : GX} {h : mH} {Q : mO → mH → Prop} (hi : Iv h) (K : (((gI h 1 6) - (gI h 1 8)) ≤ 3 → Q (.inl none) (pI h 1 9 (gI h 1 9))) ∧ (¬ ((gI h 1 6) - (gI h 1 8)) ≤ 3 → Q (.inl none) (pI h 1 9 1000))) : Vw G jX9_advance 234 [some (.ref 1), none] [] h Q :=
  s_aload_n dX9_advance_234 rfl (s_aload_n dX9_advance_235 rfl (s_getI dX9_advance_236 flX9_34 (Or.inl rfl) (hi.sh rfl rfl) (s_aload_n dX9_advance_239 rfl (s_getI dX9_advance_240 flX9_47 (Or.inl rfl) (hi.sh rfl rfl) (s_isub dX9_advance_243 (s_iconst 3 dX9_advance_244 (by decide) (s_icmp_le 254 dX9_advance_245 rfl (fun q7 => s_aload_n dX9_advance_254 rfl (s_getI dX9_advance_255 flX9_59 (Or.inl rfl) (hi.sh rfl rfl) (s_putI dX9_advance_258 flX9_59 ff8_9 rfl (hi.sh rfl rfl) (s_goto 274 dX9_advance_261 rfl (s_return dX9_advance_274 rfl (K.1 q7)))))) (fun q7 => s_sipush 1000 dX9_advance_248 (by decide) (s_goto 258 dX9_advance_251 rfl (s_putI dX9_advance_258 flX9_59 ff8_9 rfl (hi.sh rfl rfl) (s_goto 274 dX9_advance_261 rfl (s_return dX9_advance_274 rfl (K.2 q7)))))))))))))
theorem eX9_advance {G : GX} {h : mH} {Q : mO → mH → Prop} (hi : Iv h) (K : ((gI h 1 5) ≤ (gI h 1 6) → Vw G jX9_advance 39 [some (.ref 1), none] [] h Q) ∧ (¬ (gI h 1 5) ≤ (gI h 1 6) → (vp_in (gI h 1 6) 400 ∧ (((fX9_isBlank (gI h 2 (Int32.toNatClampNeg (gI h 1 6)))) = 0 → Vw G jX9_advance 39 [some (.ref 1), none] [] h Q) ∧ (¬ (fX9_isBlank (gI h 2 (Int32.toNatClampNeg (gI h 1 6)))) = 0 → Vw G jX9_advance 0 [some (.ref 1), none] [] (pI h 1 6 ((gI h 1 6) + 1)) Q))))) : WM G jX9_advance [.ref 1] h Q :=
  WM.body (ls := [some (.ref 1), none]) rfl (by decide +kernel) rfl (Nat.le_of_ble_eq_true rfl) rfl ((bX9_advance_0 hi  K))
theorem dX9_isWord_0 : decode cX9_isWord 0 = .ok (.aload_n 0, 1) := by decide +kernel
theorem dX9_isWord_1 : decode cX9_isWord 1 = .ok (.getfield 50, 3) := by decide +kernel
theorem dX9_isWord_4 : decode cX9_isWord 4 = .ok (.iconst 1, 1) := by decide +kernel
theorem dX9_isWord_5 : decode cX9_isWord 5 = .ok (.if_icmp .ne 19, 3) := by decide +kernel
theorem dX9_isWord_8 : decode cX9_isWord 8 = .ok (.aload_n 0, 1) := by decide +kernel
theorem dX9_isWord_9 : decode cX9_isWord 9 = .ok (.getfield 34, 3) := by decide +kernel
theorem dX9_isWord_12 : decode cX9_isWord 12 = .ok (.aload_n 0, 1) := by decide +kernel
theorem dX9_isWord_13 : decode cX9_isWord 13 = .ok (.getfield 47, 3) := by decide +kernel
theorem dX9_isWord_16 : decode cX9_isWord 16 = .ok (.isub, 1) := by decide +kernel
theorem dX9_isWord_17 : decode cX9_isWord 17 = .ok (.aload_n 1, 1) := by decide +kernel
theorem dX9_isWord_18 : decode cX9_isWord 18 = .ok (.invokevirtual 62, 3) := by decide +kernel
theorem dX9_isWord_21 : decode cX9_isWord 21 = .ok (.if_icmp .eq 5, 3) := by decide +kernel
theorem dX9_isWord_24 : decode cX9_isWord 24 = .ok (.iconst 0, 1) := by decide +kernel
theorem dX9_isWord_25 : decode cX9_isWord 25 = .ok (.ireturn, 1) := by decide +kernel
theorem dX9_isWord_26 : decode cX9_isWord 26 = .ok (.iconst 0, 1) := by decide +kernel
theorem dX9_isWord_27 : decode cX9_isWord 27 = .ok (.istore_n 2, 1) := by decide +kernel
theorem dX9_isWord_28 : decode cX9_isWord 28 = .ok (.iload_n 2, 1) := by decide +kernel
theorem dX9_isWord_29 : decode cX9_isWord 29 = .ok (.aload_n 1, 1) := by decide +kernel
theorem dX9_isWord_30 : decode cX9_isWord 30 = .ok (.invokevirtual 62, 3) := by decide +kernel
theorem dX9_isWord_33 : decode cX9_isWord 33 = .ok (.if_icmp .ge 30, 3) := by decide +kernel
theorem dX9_isWord_36 : decode cX9_isWord 36 = .ok (.aload_n 0, 1) := by decide +kernel
theorem dX9_isWord_37 : decode cX9_isWord 37 = .ok (.getfield 11, 3) := by decide +kernel
theorem dX9_isWord_40 : decode cX9_isWord 40 = .ok (.aload_n 0, 1) := by decide +kernel
theorem dX9_isWord_41 : decode cX9_isWord 41 = .ok (.getfield 47, 3) := by decide +kernel
theorem dX9_isWord_44 : decode cX9_isWord 44 = .ok (.iload_n 2, 1) := by decide +kernel
theorem dX9_isWord_45 : decode cX9_isWord 45 = .ok (.iadd, 1) := by decide +kernel
theorem dX9_isWord_46 : decode cX9_isWord 46 = .ok (.baload, 1) := by decide +kernel
theorem dX9_isWord_47 : decode cX9_isWord 47 = .ok (.aload_n 1, 1) := by decide +kernel
theorem dX9_isWord_48 : decode cX9_isWord 48 = .ok (.iload_n 2, 1) := by decide +kernel
theorem dX9_isWord_49 : decode cX9_isWord 49 = .ok (.invokevirtual 67, 3) := by decide +kernel
theorem dX9_isWord_52 : decode cX9_isWord 52 = .ok (.if_icmp .eq 5, 3) := by decide +kernel
theorem dX9_isWord_55 : decode cX9_isWord 55 = .ok (.iconst 0, 1) := by decide +kernel
theorem dX9_isWord_56 : decode cX9_isWord 56 = .ok (.ireturn, 1) := by decide +kernel
theorem dX9_isWord_57 : decode cX9_isWord 57 = .ok (.iinc 2 1, 3) := by decide +kernel
theorem dX9_isWord_60 : decode cX9_isWord 60 = .ok (.goto (-32), 3) := by decide +kernel
theorem dX9_isWord_63 : decode cX9_isWord 63 = .ok (.iconst 1, 1) := by decide +kernel
theorem dX9_isWord_64 : decode cX9_isWord 64 = .ok (.ireturn, 1) := by decide +kernel
theorem bX9_isWord_0 {G : GX} {h : mH} {Q : mO → mH → Prop} {v1 : UInt32} {e1 : String × Nat × String} (hi : Iv h) (t1 : sTab[v1.toNat]? = some e1) (K : (¬ (gI h 1 7) = 1 → Q (.inl (some (.int 0))) h) ∧ ((gI h 1 7) = 1 → WM G jJ0_length_8abf5 [.float v1] h (Aft G jX9_isWord 18 [some (.ref 1), some (.float v1), none] [.int ((gI h 1 6) - (gI h 1 8))] Q))) : Vw G jX9_isWord 0 [some (.ref 1), some (.float v1), none] [] h Q :=
  s_aload_n dX9_isWord_0 rfl (s_getI dX9_isWord_1 flX9_50 (Or.inl rfl) (hi.sh rfl rfl) (s_iconst 1 dX9_isWord_4 (by decide) (s_icmp_ne 24 dX9_isWord_5 rfl (fun q3 => s_iconst 0 dX9_isWord_24 (by decide) (s_zreturn dX9_isWord_25 rfl (by decide) (K.1 q3))) (fun q3 => s_aload_n dX9_isWord_8 rfl (s_getI dX9_isWord_9 flX9_34 (Or.inl rfl) (hi.sh rfl rfl) (s_aload_n dX9_isWord_12 rfl (s_getI dX9_isWord_13 flX9_47 (Or.inl rfl) (hi.sh rfl rfl) (s_isub dX9_isWord_16 (s_aloadS_n dX9_isWord_17 rfl (s_callStr (As := []) t1 dX9_isWord_18 rfl lvX9_62 rfl ⟨Nat.le_of_ble_eq_true rfl, Nat.le_of_ble_eq_true rfl⟩ rfl (Nat.le_of_ble_eq_true rfl) ((K.2 q3))))))))))))
theorem bX9_isWord_21 {G : GX} {h : mH} {Q : mO → mH → Prop} {v1 : UInt32} {e1 : String × Nat × String} {vs0 : Int32} {vs1 : Int32} (hi : Iv h) (t1 : sTab[v1.toNat]? = some e1) (K : (vs1 = vs0 → Vw G jX9_isWord 28 [some (.ref 1), some (.float v1), some (.int 0)] [] h Q) ∧ (¬ vs1 = vs0 → Q (.inl (some (.int 0))) h)) : Vw G jX9_isWord 21 [some (.ref 1), some (.float v1), none] [.int vs0, .int vs1] h Q :=
  s_icmp_eq 26 dX9_isWord_21 rfl (fun q0 => s_iconst 0 dX9_isWord_26 (by decide) (s_istore_n dX9_isWord_27 (Nat.le_of_ble_eq_true rfl) rfl ((K.1 q0)))) (fun q0 => s_iconst 0 dX9_isWord_24 (by decide) (s_zreturn dX9_isWord_25 rfl (by decide) (K.2 q0)))
theorem bX9_isWord_28 {G : GX} {h : mH} {Q : mO → mH → Prop} {v1 : UInt32} {e1 : String × Nat × String} {v2 : Int32} (hi : Iv h) (t1 : sTab[v1.toNat]? = some e1) (K : WM G jJ0_length_8abf5 [.float v1] h (Aft G jX9_isWord 30 [some (.ref 1), some (.float v1), some (.int v2)] [.int v2] Q)) : Vw G jX9_isWord 28 [some (.ref 1), some (.float v1), some (.int v2)] [] h Q :=
  s_iload_n dX9_isWord_28 rfl (s_aloadS_n dX9_isWord_29 rfl (s_callStr (As := []) t1 dX9_isWord_30 rfl lvX9_62 rfl ⟨Nat.le_of_ble_eq_true rfl, Nat.le_of_ble_eq_true rfl⟩ rfl (Nat.le_of_ble_eq_true rfl) (K)))
theorem bX9_isWord_33 {G : GX} {h : mH} {Q : mO → mH → Prop} {v1 : UInt32} {e1 : String × Nat × String} {v2 : Int32} {vs0 : Int32} {vs1 : Int32} (hi : Iv h) (t1 : sTab[v1.toNat]? = some e1) (K : (vs0 ≤ vs1 → Q (.inl (some (.int 1))) h) ∧ (¬ vs0 ≤ vs1 → (vp_in ((gI h 1 8) + v2) 400 ∧ WM G jJ0_charAt_5068e [.float v1, .int v2] h (Aft G jX9_isWord 49 [some (.ref 1), some (.float v1), some (.int v2)] [.int (gI h 2 (Int32.toNatClampNeg ((gI h 1 8) + v2)))] Q)))) : Vw G jX9_isWord 33 [some (.ref 1), some (.float v1), some (.int v2)] [.int vs0, .int vs1] h Q :=
  s_icmp_ge 63 dX9_isWord_33 rfl (fun q0 => s_iconst 1 dX9_isWord_63 (by decide) (s_zreturn dX9_isWord_64 rfl (by decide) (K.1 q0))) (fun q0 => s_aload_n dX9_isWord_36 rfl (s_getR (v := .ref 2) dX9_isWord_37 flX9_11 rfl (hi.sh rfl rfl) (hi.rf (o := 1) (k := 0) (d := 1) rfl rfl) (s_aload_n dX9_isWord_40 rfl (s_getI dX9_isWord_41 flX9_47 (Or.inl rfl) (hi.sh rfl rfl) (s_iload_n dX9_isWord_44 rfl (s_iadd dX9_isWord_45 (s_baload dX9_isWord_46 (hi.sh rfl rfl) (K.2 q0).1 (s_aloadS_n dX9_isWord_47 rfl (s_iload_n dX9_isWord_48 rfl (s_callStr (As := [.int v2]) t1 dX9_isWord_49 rfl lvX9_67 rfl ⟨Nat.le_of_ble_eq_true rfl, Nat.le_of_ble_eq_true rfl⟩ rfl (Nat.le_of_ble_eq_true rfl) ((K.2 q0).2)))))))))))
theorem bX9_isWord_52 {G : GX} {h : mH} {Q : mO → mH → Prop} {v1 : UInt32} {e1 : String × Nat × String} {v2 : Int32} {vs0 : Int32} {vs1 : Int32} (hi : Iv h) (t1 : sTab[v1.toNat]? = some e1) (K : (vs1 = vs0 → Vw G jX9_isWord 28 [some (.ref 1), some (.float v1), some (.int (v2 + 1))] [] h Q) ∧ (¬ vs1 = vs0 → Q (.inl (some (.int 0))) h)) : Vw G jX9_isWord 52 [some (.ref 1), some (.float v1), some (.int v2)] [.int vs0, .int vs1] h Q :=
  s_icmp_eq 57 dX9_isWord_52 rfl (fun q0 => s_iinc 1 dX9_isWord_57 rfl (by decide) (Nat.le_of_ble_eq_true rfl) rfl (s_goto 28 dX9_isWord_60 rfl ((K.1 q0)))) (fun q0 => s_iconst 0 dX9_isWord_55 (by decide) (s_zreturn dX9_isWord_56 rfl (by decide) (K.2 q0)))
theorem eX9_isWord {G : GX} {h : mH} {Q : mO → mH → Prop} {v1 : UInt32} {e1 : String × Nat × String} (hi : Iv h) (t1 : sTab[v1.toNat]? = some e1) (K : (¬ (gI h 1 7) = 1 → Q (.inl (some (.int 0))) h) ∧ ((gI h 1 7) = 1 → WM G jJ0_length_8abf5 [.float v1] h (Aft G jX9_isWord 18 [some (.ref 1), some (.float v1), none] [.int ((gI h 1 6) - (gI h 1 8))] Q))) : WM G jX9_isWord [.ref 1, .float v1] h Q :=
  WM.body (ls := [some (.ref 1), some (.float v1), none]) rfl (by decide +kernel) rfl (Nat.le_of_ble_eq_true rfl) rfl ((bX9_isWord_0 hi t1 K))
theorem dX9_refuse_0 : decode cX9_refuse 0 = .ok (.aload_n 0, 1) := by decide +kernel
theorem dX9_refuse_1 : decode cX9_refuse 1 = .ok (.iload_n 1, 1) := by decide +kernel
theorem dX9_refuse_2 : decode cX9_refuse 2 = .ok (.putfield 37, 3) := by decide +kernel
theorem dX9_refuse_5 : decode cX9_refuse 5 = .ok (.aload_n 0, 1) := by decide +kernel
theorem dX9_refuse_6 : decode cX9_refuse 6 = .ok (.aload_n 0, 1) := by decide +kernel
theorem dX9_refuse_7 : decode cX9_refuse 7 = .ok (.getfield 47, 3) := by decide +kernel
theorem dX9_refuse_10 : decode cX9_refuse 10 = .ok (.putfield 15, 3) := by decide +kernel
theorem dX9_refuse_13 : decode cX9_refuse 13 = .ok (.iconst 0, 1) := by decide +kernel
theorem dX9_refuse_14 : decode cX9_refuse 14 = .ok (.ireturn, 1) := by decide +kernel
theorem bX9_refuse_0 {G : GX} {h : mH} {Q : mO → mH → Prop} {v1 : Int32} (hi : Iv h) (K : Q (.inl (some (.int 0))) (pI (pI h 1 2 v1) 1 3 (gI (pI h 1 2 v1) 1 8))) : Vw G jX9_refuse 0 [some (.ref 1), some (.int v1)] [] h Q :=
  s_aload_n dX9_refuse_0 rfl (s_iload_n dX9_refuse_1 rfl (s_putI dX9_refuse_2 flX9_37 ff8_2 rfl (hi.sh rfl rfl) (s_aload_n dX9_refuse_5 rfl (s_aload_n dX9_refuse_6 rfl (s_getI dX9_refuse_7 flX9_47 (Or.inl rfl) (hi.sh rfl rfl) (s_putI dX9_refuse_10 flX9_15 ff8_3 rfl (hi.sh rfl rfl) (s_iconst 0 dX9_refuse_13 (by decide) (s_zreturn dX9_refuse_14 rfl (by decide) K))))))))
theorem eX9_refuse {G : GX} {h : mH} {Q : mO → mH → Prop} {v1 : Int32} (hi : Iv h) (K : Q (.inl (some (.int 0))) (pI (pI h 1 2 v1) 1 3 (gI (pI h 1 2 v1) 1 8))) : WM G jX9_refuse [.ref 1, .int v1] h Q :=
  WM.body (ls := [some (.ref 1), some (.int v1)]) rfl (by decide +kernel) rfl (Nat.le_of_ble_eq_true rfl) rfl ((bX9_refuse_0 hi  K))
theorem dX9_takeSign_0 : decode cX9_takeSign 0 = .ok (.aload_n 0, 1) := by decide +kernel
theorem dX9_takeSign_1 : decode cX9_takeSign 1 = .ok (.iload_n 1, 1) := by decide +kernel
theorem dX9_takeSign_2 : decode cX9_takeSign 2 = .ok (.invokevirtual 71, 3) := by decide +kernel
theorem dX9_takeSign_5 : decode cX9_takeSign 5 = .ok (.ifCond .ne 9, 3) := by decide +kernel
theorem dX9_takeSign_8 : decode cX9_takeSign 8 = .ok (.aload_n 0, 1) := by decide +kernel
theorem dX9_takeSign_9 : decode cX9_takeSign 9 = .ok (.iconst 1, 1) := by decide +kernel
theorem dX9_takeSign_10 : decode cX9_takeSign 10 = .ok (.invokevirtual 75, 3) := by decide +kernel
theorem dX9_takeSign_13 : decode cX9_takeSign 13 = .ok (.ireturn, 1) := by decide +kernel
theorem dX9_takeSign_14 : decode cX9_takeSign 14 = .ok (.aload_n 0, 1) := by decide +kernel
theorem dX9_takeSign_15 : decode cX9_takeSign 15 = .ok (.invokevirtual 40, 3) := by decide +kernel
theorem dX9_takeSign_18 : decode cX9_takeSign 18 = .ok (.iconst 1, 1) := by decide +kernel
theorem dX9_takeSign_19 : decode cX9_takeSign 19 = .ok (.ireturn, 1) := by decide +kernel
theorem bX9_takeSign_0 {G : GX} {h : mH} {Q : mO → mH → Prop} {v1 : Int32} (hi : Iv h) (K : (¬ (fX9_isSign h v1) = 0 → WM G jX9_advance [.ref 1] h (Aft G jX9_takeSign 15 [none, none] [] Q)) ∧ ((fX9_isSign h v1) = 0 → WM G jX9_refuse [.ref 1, .int 1] h (Aft G jX9_takeSign 10 [none, none] [] Q))) : Vw G jX9_takeSign 0 [some (.ref 1), some (.int v1)] [] h Q :=
  s_aload_n dX9_takeSign_0 rfl (s_iload_n dX9_takeSign_1 rfl (s_callV (As := [.int v1]) dX9_takeSign_2 rfl lvX9_71 ⟨Nat.le_of_ble_eq_true rfl, Nat.le_of_ble_eq_true rfl⟩ (hi.sh rfl rfl) ⟨_, _, by decide, rfl⟩ rfl (Nat.le_of_ble_eq_true rfl) (mX9_isSign hi   (s_if_ne 14 dX9_takeSign_5 rfl (fun q3 => s_aload_n dX9_takeSign_14 rfl (Vw.mask [false, false] (s_callV (As := []) dX9_takeSign_15 rfl lvX9_40 ⟨Nat.le_of_ble_eq_true rfl, Nat.le_of_ble_eq_true rfl⟩ (hi.sh rfl rfl) ⟨_, _, by decide, rfl⟩ rfl (Nat.le_of_ble_eq_true rfl) ((K.1 q3))))) (fun q3 => s_aload_n dX9_takeSign_8 rfl (s_iconst 1 dX9_takeSign_9 (by decide) (Vw.mask [false, false] (s_callV (As := [.int 1]) dX9_takeSign_10 rfl lvX9_75 ⟨Nat.le_of_ble_eq_true rfl, Nat.le_of_ble_eq_true rfl⟩ (hi.sh rfl rfl) ⟨_, _, by decide, rfl⟩ rfl (Nat.le_of_ble_eq_true rfl) ((K.2 q3))))))))))
theorem bX9_takeSign_13 {G : GX} {h : mH} {Q : mO → mH → Prop} {vs0 : Int32} (hi : Iv h) (K : (vs0 = 0 ∨ vs0 = 1) ∧ Q (.inl (some (.int vs0))) h) : Vw G jX9_takeSign 13 [none, none] [.int vs0] h Q :=
  s_zreturn dX9_takeSign_13 rfl K.1 K.2
theorem bX9_takeSign_18 {G : GX} {h : mH} {Q : mO → mH → Prop} (hi : Iv h) (K : Q (.inl (some (.int 1))) h) : Vw G jX9_takeSign 18 [none, none] [] h Q :=
  s_iconst 1 dX9_takeSign_18 (by decide) (s_zreturn dX9_takeSign_19 rfl (by decide) K)
theorem eX9_takeSign {G : GX} {h : mH} {Q : mO → mH → Prop} {v1 : Int32} (hi : Iv h) (K : (¬ (fX9_isSign h v1) = 0 → WM G jX9_advance [.ref 1] h (Aft G jX9_takeSign 15 [none, none] [] Q)) ∧ ((fX9_isSign h v1) = 0 → WM G jX9_refuse [.ref 1, .int 1] h (Aft G jX9_takeSign 10 [none, none] [] Q))) : WM G jX9_takeSign [.ref 1, .int v1] h Q :=
  WM.body (ls := [some (.ref 1), some (.int v1)]) rfl (by decide +kernel) rfl (Nat.le_of_ble_eq_true rfl) rfl ((bX9_takeSign_0 hi  K))
theorem dX9_takeNumber_0 : decode cX9_takeNumber 0 = .ok (.aload_n 0, 1) := by decide +kernel
theorem dX9_takeNumber_1 : decode cX9_takeNumber 1 = .ok (.getfield 50, 3) := by decide +kernel
theorem dX9_takeNumber_4 : decode cX9_takeNumber 4 = .ok (.iconst 2, 1) := by decide +kernel
theorem dX9_takeNumber_5 : decode cX9_takeNumber 5 = .ok (.if_icmp .eq 9, 3) := by decide +kernel
theorem dX9_takeNumber_8 : decode cX9_takeNumber 8 = .ok (.aload_n 0, 1) := by decide +kernel
theorem dX9_takeNumber_9 : decode cX9_takeNumber 9 = .ok (.iconst 1, 1) := by decide +kernel
theorem dX9_takeNumber_10 : decode cX9_takeNumber 10 = .ok (.invokevirtual 75, 3) := by decide +kernel
theorem dX9_takeNumber_13 : decode cX9_takeNumber 13 = .ok (.ireturn, 1) := by decide +kernel
theorem dX9_takeNumber_14 : decode cX9_takeNumber 14 = .ok (.aload_n 0, 1) := by decide +kernel
theorem dX9_takeNumber_15 : decode cX9_takeNumber 15 = .ok (.getfield 59, 3) := by decide +kernel
theorem dX9_takeNumber_18 : decode cX9_takeNumber 18 = .ok (.iload_n 1, 1) := by decide +kernel
theorem dX9_takeNumber_19 : decode cX9_takeNumber 19 = .ok (.if_icmp .lt 11, 3) := by decide +kernel
theorem dX9_takeNumber_22 : decode cX9_takeNumber 22 = .ok (.aload_n 0, 1) := by decide +kernel
theorem dX9_takeNumber_23 : decode cX9_takeNumber 23 = .ok (.getfield 59, 3) := by decide +kernel
theorem dX9_takeNumber_26 : decode cX9_takeNumber 26 = .ok (.iload_n 2, 1) := by decide +kernel
theorem dX9_takeNumber_27 : decode cX9_takeNumber 27 = .ok (.if_icmp .le 9, 3) := by decide +kernel
theorem dX9_takeNumber_30 : decode cX9_takeNumber 30 = .ok (.aload_n 0, 1) := by decide +kernel
theorem dX9_takeNumber_31 : decode cX9_takeNumber 31 = .ok (.iconst 2, 1) := by decide +kernel
theorem dX9_takeNumber_32 : decode cX9_takeNumber 32 = .ok (.invokevirtual 75, 3) := by decide +kernel
theorem dX9_takeNumber_35 : decode cX9_takeNumber 35 = .ok (.ireturn, 1) := by decide +kernel
theorem dX9_takeNumber_36 : decode cX9_takeNumber 36 = .ok (.aload_n 0, 1) := by decide +kernel
theorem dX9_takeNumber_37 : decode cX9_takeNumber 37 = .ok (.aload_n 0, 1) := by decide +kernel
theorem dX9_takeNumber_38 : decode cX9_takeNumber 38 = .ok (.getfield 59, 3) := by decide +kernel
theorem dX9_takeNumber_41 : decode cX9_takeNumber 41 = .ok (.putfield 78, 3) := by decide +kernel
theorem dX9_takeNumber_44 : decode cX9_takeNumber 44 = .ok (.aload_n 0, 1) := by decide +kernel
theorem dX9_takeNumber_45 : decode cX9_takeNumber 45 = .ok (.invokevirtual 40, 3) := by decide +kernel
theorem dX9_takeNumber_48 : decode cX9_takeNumber 48 = .ok (.iconst 1, 1) := by decide +kernel
theorem dX9_takeNumber_49 : decode cX9_takeNumber 49 = .ok (.ireturn, 1) := by decide +kernel
theorem bX9_takeNumber_0 {G : GX} {h : mH} {Q : mO → mH → Prop} {v1 : Int32} {v2 : Int32} (hi : Iv h) (K : ((gI h 1 7) = 2 → (((gI h 1 9) < v1 → Vw G jX9_takeNumber 30 [some (.ref 1), none, none] [] h Q) ∧ (¬ (gI h 1 9) < v1 → (((gI h 1 9) ≤ v2 → WM G jX9_advance [.ref 1] (pI h 1 4 (gI h 1 9)) (Aft G jX9_takeNumber 45 [none, none, none] [] Q)) ∧ (¬ (gI h 1 9) ≤ v2 → Vw G jX9_takeNumber 30 [some (.ref 1), none, none] [] h Q))))) ∧ (¬ (gI h 1 7) = 2 → WM G jX9_refuse [.ref 1, .int 1] h (Aft G jX9_takeNumber 10 [none, none, none] [] Q))) : Vw G jX9_takeNumber 0 [some (.ref 1), some (.int v1), some (.int v2)] [] h Q :=
  s_aload_n dX9_takeNumber_0 rfl (s_getI dX9_takeNumber_1 flX9_50 (Or.inl rfl) (hi.sh rfl rfl) (s_iconst 2 dX9_takeNumber_4 (by decide) (s_icmp_eq 14 dX9_takeNumber_5 rfl (fun q3 => s_aload_n dX9_takeNumber_14 rfl (s_getI dX9_takeNumber_15 flX9_59 (Or.inl rfl) (hi.sh rfl rfl) (s_iload_n dX9_takeNumber_18 rfl (s_icmp_lt 30 dX9_takeNumber_19 rfl (fun q7 => Vw.mask [true, false, false] (((K.1 q3).1 q7))) (fun q7 => s_aload_n dX9_takeNumber_22 rfl (s_getI dX9_takeNumber_23 flX9_59 (Or.inl rfl) (hi.sh rfl rfl) (s_iload_n dX9_takeNumber_26 rfl (s_icmp_le 36 dX9_takeNumber_27 rfl (fun q11 => s_aload_n dX9_takeNumber_36 rfl (s_aload_n dX9_takeNumber_37 rfl (s_getI dX9_takeNumber_38 flX9_59 (Or.inl rfl) (hi.sh rfl rfl) (s_putI dX9_takeNumber_41 flX9_78 ff8_4 rfl (hi.sh rfl rfl) (s_aload_n dX9_takeNumber_44 rfl (Vw.mask [false, false, false] (s_callV (As := []) dX9_takeNumber_45 rfl lvX9_40 ⟨Nat.le_of_ble_eq_true rfl, Nat.le_of_ble_eq_true rfl⟩ (hi.sh rfl rfl) ⟨_, _, by decide, rfl⟩ rfl (Nat.le_of_ble_eq_true rfl) ((((K.1 q3).2 q7).1 q11))))))))) (fun q11 => Vw.mask [true, false, false] ((((K.1 q3).2 q7).2 q11))))))))))) (fun q3 => s_aload_n dX9_takeNumber_8 rfl (s_iconst 1 dX9_takeNumber_9 (by decide) (Vw.mask [false, false, false] (s_callV (As := [.int 1]) dX9_takeNumber_10 rfl lvX9_75 ⟨Nat.le_of_ble_eq_true rfl, Nat.le_of_ble_eq_true rfl⟩ (hi.sh rfl rfl) ⟨_, _, by decide, rfl⟩ rfl (Nat.le_of_ble_eq_true rfl) ((K.2 q3)))))))))
theorem bX9_takeNumber_13 {G : GX} {h : mH} {Q : mO → mH → Prop} {vs0 : Int32} (hi : Iv h) (K : (vs0 = 0 ∨ vs0 = 1) ∧ Q (.inl (some (.int vs0))) h) : Vw G jX9_takeNumber 13 [none, none, none] [.int vs0] h Q :=
  s_zreturn dX9_takeNumber_13 rfl K.1 K.2
theorem bX9_takeNumber_30 {G : GX} {h : mH} {Q : mO → mH → Prop} (hi : Iv h) (K : WM G jX9_refuse [.ref 1, .int 2] h (Aft G jX9_takeNumber 32 [none, none, none] [] Q)) : Vw G jX9_takeNumber 30 [some (.ref 1), none, none] [] h Q :=
  s_aload_n dX9_takeNumber_30 rfl (s_iconst 2 dX9_takeNumber_31 (by decide) (Vw.mask [false, false, false] (s_callV (As := [.int 2]) dX9_takeNumber_32 rfl lvX9_75 ⟨Nat.le_of_ble_eq_true rfl, Nat.le_of_ble_eq_true rfl⟩ (hi.sh rfl rfl) ⟨_, _, by decide, rfl⟩ rfl (Nat.le_of_ble_eq_true rfl) (K))))
theorem bX9_takeNumber_35 {G : GX} {h : mH} {Q : mO → mH → Prop} {vs0 : Int32} (hi : Iv h) (K : (vs0 = 0 ∨ vs0 = 1) ∧ Q (.inl (some (.int vs0))) h) : Vw G jX9_takeNumber 35 [none, none, none] [.int vs0] h Q :=
  s_zreturn dX9_takeNumber_35 rfl K.1 K.2
theorem bX9_takeNumber_48 {G : GX} {h : mH} {Q : mO → mH → Prop} (hi : Iv h) (K : Q (.inl (some (.int 1))) h) : Vw G jX9_takeNumber 48 [none, none, none] [] h Q :=
  s_iconst 1 dX9_takeNumber_48 (by decide) (s_zreturn dX9_takeNumber_49 rfl (by decide) K)
theorem eX9_takeNumber {G : GX} {h : mH} {Q : mO → mH → Prop} {v1 : Int32} {v2 : Int32} (hi : Iv h) (K : ((gI h 1 7) = 2 → (((gI h 1 9) < v1 → Vw G jX9_takeNumber 30 [some (.ref 1), none, none] [] h Q) ∧ (¬ (gI h 1 9) < v1 → (((gI h 1 9) ≤ v2 → WM G jX9_advance [.ref 1] (pI h 1 4 (gI h 1 9)) (Aft G jX9_takeNumber 45 [none, none, none] [] Q)) ∧ (¬ (gI h 1 9) ≤ v2 → Vw G jX9_takeNumber 30 [some (.ref 1), none, none] [] h Q))))) ∧ (¬ (gI h 1 7) = 2 → WM G jX9_refuse [.ref 1, .int 1] h (Aft G jX9_takeNumber 10 [none, none, none] [] Q))) : WM G jX9_takeNumber [.ref 1, .int v1, .int v2] h Q :=
  WM.body (ls := [some (.ref 1), some (.int v1), some (.int v2)]) rfl (by decide +kernel) rfl (Nat.le_of_ble_eq_true rfl) rfl ((bX9_takeNumber_0 hi  K))
theorem dX9_takeSigned_0 : decode cX9_takeSigned 0 = .ok (.aload_n 0, 1) := by decide +kernel
theorem dX9_takeSigned_1 : decode cX9_takeSigned 1 = .ok (.bipush 45, 2) := by decide +kernel
theorem dX9_takeSigned_3 : decode cX9_takeSigned 3 = .ok (.invokevirtual 71, 3) := by decide +kernel
theorem dX9_takeSigned_6 : decode cX9_takeSigned 6 = .ok (.istore_n 2, 1) := by decide +kernel
theorem dX9_takeSigned_7 : decode cX9_takeSigned 7 = .ok (.iload_n 2, 1) := by decide +kernel
theorem dX9_takeSigned_8 : decode cX9_takeSigned 8 = .ok (.ifCond .eq 7, 3) := by decide +kernel
theorem dX9_takeSigned_11 : decode cX9_takeSigned 11 = .ok (.aload_n 0, 1) := by decide +kernel
theorem dX9_takeSigned_12 : decode cX9_takeSigned 12 = .ok (.invokevirtual 40, 3) := by decide +kernel
theorem dX9_takeSigned_15 : decode cX9_takeSigned 15 = .ok (.aload_n 0, 1) := by decide +kernel
theorem dX9_takeSigned_16 : decode cX9_takeSigned 16 = .ok (.iconst 0, 1) := by decide +kernel
theorem dX9_takeSigned_17 : decode cX9_takeSigned 17 = .ok (.iload_n 1, 1) := by decide +kernel
theorem dX9_takeSigned_18 : decode cX9_takeSigned 18 = .ok (.invokevirtual 81, 3) := by decide +kernel
theorem dX9_takeSigned_21 : decode cX9_takeSigned 21 = .ok (.ifCond .ne 5, 3) := by decide +kernel
theorem dX9_takeSigned_24 : decode cX9_takeSigned 24 = .ok (.iconst 0, 1) := by decide +kernel
theorem dX9_takeSigned_25 : decode cX9_takeSigned 25 = .ok (.ireturn, 1) := by decide +kernel
theorem dX9_takeSigned_26 : decode cX9_takeSigned 26 = .ok (.aload_n 0, 1) := by decide +kernel
theorem dX9_takeSigned_27 : decode cX9_takeSigned 27 = .ok (.iload_n 2, 1) := by decide +kernel
theorem dX9_takeSigned_28 : decode cX9_takeSigned 28 = .ok (.ifCond .eq 11, 3) := by decide +kernel
theorem dX9_takeSigned_31 : decode cX9_takeSigned 31 = .ok (.aload_n 0, 1) := by decide +kernel
theorem dX9_takeSigned_32 : decode cX9_takeSigned 32 = .ok (.getfield 78, 3) := by decide +kernel
theorem dX9_takeSigned_35 : decode cX9_takeSigned 35 = .ok (.ineg, 1) := by decide +kernel
theorem dX9_takeSigned_36 : decode cX9_takeSigned 36 = .ok (.goto 7, 3) := by decide +kernel
theorem dX9_takeSigned_39 : decode cX9_takeSigned 39 = .ok (.aload_n 0, 1) := by decide +kernel
theorem dX9_takeSigned_40 : decode cX9_takeSigned 40 = .ok (.getfield 78, 3) := by decide +kernel
theorem dX9_takeSigned_43 : decode cX9_takeSigned 43 = .ok (.putfield 78, 3) := by decide +kernel
theorem dX9_takeSigned_46 : decode cX9_takeSigned 46 = .ok (.iconst 1, 1) := by decide +kernel
theorem dX9_takeSigned_47 : decode cX9_takeSigned 47 = .ok (.ireturn, 1) := by decide +kernel
theorem bX9_takeSigned_0 {G : GX} {h : mH} {Q : mO → mH → Prop} {v1 : Int32} (hi : Iv h) (K : ((fX9_isSign h 45) = 0 → Vw G jX9_takeSigned 15 [some (.ref 1), some (.int v1), some (.int (fX9_isSign h 45))] [] h Q) ∧ (¬ (fX9_isSign h 45) = 0 → WM G jX9_advance [.ref 1] h (Aft G jX9_takeSigned 12 [some (.ref 1), some (.int v1), some (.int (fX9_isSign h 45))] [] Q))) : Vw G jX9_takeSigned 0 [some (.ref 1), some (.int v1), none] [] h Q :=
  s_aload_n dX9_takeSigned_0 rfl (s_bipush 45 dX9_takeSigned_1 (by decide) (s_callV (As := [.int 45]) dX9_takeSigned_3 rfl lvX9_71 ⟨Nat.le_of_ble_eq_true rfl, Nat.le_of_ble_eq_true rfl⟩ (hi.sh rfl rfl) ⟨_, _, by decide, rfl⟩ rfl (Nat.le_of_ble_eq_true rfl) (mX9_isSign hi   (s_istore_n dX9_takeSigned_6 (Nat.le_of_ble_eq_true rfl) rfl (s_iload_n dX9_takeSigned_7 rfl (s_if_eq 15 dX9_takeSigned_8 rfl (fun q5 => (K.1 q5)) (fun q5 => s_aload_n dX9_takeSigned_11 rfl (s_callV (As := []) dX9_takeSigned_12 rfl lvX9_40 ⟨Nat.le_of_ble_eq_true rfl, Nat.le_of_ble_eq_true rfl⟩ (hi.sh rfl rfl) ⟨_, _, by decide, rfl⟩ rfl (Nat.le_of_ble_eq_true rfl) ((K.2 q5))))))))))
theorem bX9_takeSigned_15 {G : GX} {h : mH} {Q : mO → mH → Prop} {v1 : Int32} {v2 : Int32} (hi : Iv h) (K : WM G jX9_takeNumber [.ref 1, .int 0, .int v1] h (Aft G jX9_takeSigned 18 [some (.ref 1), none, some (.int v2)] [] Q)) : Vw G jX9_takeSigned 15 [some (.ref 1), some (.int v1), some (.int v2)] [] h Q :=
  s_aload_n dX9_takeSigned_15 rfl (s_iconst 0 dX9_takeSigned_16 (by decide) (s_iload_n dX9_takeSigned_17 rfl (Vw.mask [true, false, true] (s_callV (As := [.int 0, .int v1]) dX9_takeSigned_18 rfl lvX9_81 ⟨Nat.le_of_ble_eq_true rfl, Nat.le_of_ble_eq_true rfl⟩ (hi.sh rfl rfl) ⟨_, _, by decide, rfl⟩ rfl (Nat.le_of_ble_eq_true rfl) (K)))))
theorem bX9_takeSigned_21 {G : GX} {h : mH} {Q : mO → mH → Prop} {v2 : Int32} {vs0 : Int32} (hi : Iv h) (K : (¬ vs0 = 0 → ((v2 = 0 → Q (.inl (some (.int 1))) (pI h 1 4 (gI h 1 4))) ∧ (¬ v2 = 0 → Q (.inl (some (.int 1))) (pI h 1 4 (-(gI h 1 4)))))) ∧ (vs0 = 0 → Q (.inl (some (.int 0))) h)) : Vw G jX9_takeSigned 21 [some (.ref 1), none, some (.int v2)] [.int vs0] h Q :=
  s_if_ne 26 dX9_takeSigned_21 rfl (fun q0 => s_aload_n dX9_takeSigned_26 rfl (s_iload_n dX9_takeSigned_27 rfl (s_if_eq 39 dX9_takeSigned_28 rfl (fun q3 => s_aload_n dX9_takeSigned_39 rfl (s_getI dX9_takeSigned_40 flX9_78 (Or.inl rfl) (hi.sh rfl rfl) (s_putI dX9_takeSigned_43 flX9_78 ff8_4 rfl (hi.sh rfl rfl) (s_iconst 1 dX9_takeSigned_46 (by decide) (s_zreturn dX9_takeSigned_47 rfl (by decide) ((K.1 q0).1 q3)))))) (fun q3 => s_aload_n dX9_takeSigned_31 rfl (s_getI dX9_takeSigned_32 flX9_78 (Or.inl rfl) (hi.sh rfl rfl) (s_ineg dX9_takeSigned_35 (s_goto 43 dX9_takeSigned_36 rfl (s_putI dX9_takeSigned_43 flX9_78 ff8_4 rfl (hi.sh rfl rfl) (s_iconst 1 dX9_takeSigned_46 (by decide) (s_zreturn dX9_takeSigned_47 rfl (by decide) ((K.1 q0).2 q3))))))))))) (fun q0 => s_iconst 0 dX9_takeSigned_24 (by decide) (s_zreturn dX9_takeSigned_25 rfl (by decide) (K.2 q0)))
theorem eX9_takeSigned {G : GX} {h : mH} {Q : mO → mH → Prop} {v1 : Int32} (hi : Iv h) (K : ((fX9_isSign h 45) = 0 → Vw G jX9_takeSigned 15 [some (.ref 1), some (.int v1), some (.int (fX9_isSign h 45))] [] h Q) ∧ (¬ (fX9_isSign h 45) = 0 → WM G jX9_advance [.ref 1] h (Aft G jX9_takeSigned 12 [some (.ref 1), some (.int v1), some (.int (fX9_isSign h 45))] [] Q))) : WM G jX9_takeSigned [.ref 1, .int v1] h Q :=
  WM.body (ls := [some (.ref 1), some (.int v1), none]) rfl (by decide +kernel) rfl (Nat.le_of_ble_eq_true rfl) rfl ((bX9_takeSigned_0 hi  K))
theorem dX9_lay_0 : decode cX9_lay 0 = .ok (.bipush 24, 2) := by decide +kernel
theorem dX9_lay_2 : decode cX9_lay 2 = .ok (.istore_n 2, 1) := by decide +kernel
theorem dX9_lay_3 : decode cX9_lay 3 = .ok (.iload_n 2, 1) := by decide +kernel
theorem dX9_lay_4 : decode cX9_lay 4 = .ok (.ifCond .lt 42, 3) := by decide +kernel
theorem dX9_lay_7 : decode cX9_lay 7 = .ok (.aload_n 0, 1) := by decide +kernel
theorem dX9_lay_8 : decode cX9_lay 8 = .ok (.getfield 19, 3) := by decide +kernel
theorem dX9_lay_11 : decode cX9_lay 11 = .ok (.sipush 400, 3) := by decide +kernel
theorem dX9_lay_14 : decode cX9_lay 14 = .ok (.if_icmp .ge 32, 3) := by decide +kernel
theorem dX9_lay_17 : decode cX9_lay 17 = .ok (.aload_n 0, 1) := by decide +kernel
theorem dX9_lay_18 : decode cX9_lay 18 = .ok (.getfield 11, 3) := by decide +kernel
theorem dX9_lay_21 : decode cX9_lay 21 = .ok (.aload_n 0, 1) := by decide +kernel
theorem dX9_lay_22 : decode cX9_lay 22 = .ok (.getfield 19, 3) := by decide +kernel
theorem dX9_lay_25 : decode cX9_lay 25 = .ok (.iload_n 1, 1) := by decide +kernel
theorem dX9_lay_26 : decode cX9_lay 26 = .ok (.iload_n 2, 1) := by decide +kernel
theorem dX9_lay_27 : decode cX9_lay 27 = .ok (.iushr, 1) := by decide +kernel
theorem dX9_lay_28 : decode cX9_lay 28 = .ok (.i2b, 1) := by decide +kernel
theorem dX9_lay_29 : decode cX9_lay 29 = .ok (.bastore, 1) := by decide +kernel
theorem dX9_lay_30 : decode cX9_lay 30 = .ok (.aload_n 0, 1) := by decide +kernel
theorem dX9_lay_31 : decode cX9_lay 31 = .ok (.dup, 1) := by decide +kernel
theorem dX9_lay_32 : decode cX9_lay 32 = .ok (.getfield 19, 3) := by decide +kernel
theorem dX9_lay_35 : decode cX9_lay 35 = .ok (.iconst 1, 1) := by decide +kernel
theorem dX9_lay_36 : decode cX9_lay 36 = .ok (.iadd, 1) := by decide +kernel
theorem dX9_lay_37 : decode cX9_lay 37 = .ok (.putfield 19, 3) := by decide +kernel
theorem dX9_lay_40 : decode cX9_lay 40 = .ok (.iinc 2 (-8), 3) := by decide +kernel
theorem dX9_lay_43 : decode cX9_lay 43 = .ok (.goto (-40), 3) := by decide +kernel
theorem dX9_lay_46 : decode cX9_lay 46 = .ok (.return_, 1) := by decide +kernel
theorem bX9_lay_0 {G : GX} {h : mH} {Q : mO → mH → Prop} {v1 : Int32} (hi : Iv h) (K : Vw G jX9_lay 3 [some (.ref 1), some (.int v1), some (.int 24)] [] h Q) : Vw G jX9_lay 0 [some (.ref 1), some (.int v1), none] [] h Q :=
  s_bipush 24 dX9_lay_0 (by decide) (s_istore_n dX9_lay_2 (Nat.le_of_ble_eq_true rfl) rfl (K))
theorem bX9_lay_3 {G : GX} {h : mH} {Q : mO → mH → Prop} {v1 : Int32} {v2 : Int32} (hi : Iv h) (K : (v2 < 0 → Q (.inl none) h) ∧ (¬ v2 < 0 → ((400 ≤ (gI h 1 1) → Q (.inl none) h) ∧ (¬ 400 ≤ (gI h 1 1) → (vp_in (gI h 1 1) 400 ∧ Vw G jX9_lay 3 [some (.ref 1), some (.int v1), some (.int (v2 + (-8)))] [] (pI (pI h 2 (Int32.toNatClampNeg (gI h 1 1)) ((Int32.toInt8 ((Int32.toInt8 ((v1.toUInt32 >>> (Int32.toUInt32 v2 &&& Int32.toUInt32 31)).toInt32)).toInt32)).toInt32)) 1 1 ((gI (pI h 2 (Int32.toNatClampNeg (gI h 1 1)) ((Int32.toInt8 ((Int32.toInt8 ((v1.toUInt32 >>> (Int32.toUInt32 v2 &&& Int32.toUInt32 31)).toInt32)).toInt32)).toInt32)) 1 1) + 1)) Q))))) : Vw G jX9_lay 3 [some (.ref 1), some (.int v1), some (.int v2)] [] h Q :=
  s_iload_n dX9_lay_3 rfl (s_if_lt 46 dX9_lay_4 rfl (fun q1 => s_return dX9_lay_46 rfl (K.1 q1)) (fun q1 => s_aload_n dX9_lay_7 rfl (s_getI dX9_lay_8 flX9_19 (Or.inl rfl) (hi.sh rfl rfl) (s_sipush 400 dX9_lay_11 (by decide) (s_icmp_ge 46 dX9_lay_14 rfl (fun q5 => s_return dX9_lay_46 rfl ((K.2 q1).1 q5)) (fun q5 => s_aload_n dX9_lay_17 rfl (s_getR (v := .ref 2) dX9_lay_18 flX9_11 rfl (hi.sh rfl rfl) (hi.rf (o := 1) (k := 0) (d := 1) rfl rfl) (s_aload_n dX9_lay_21 rfl (s_getI dX9_lay_22 flX9_19 (Or.inl rfl) (hi.sh rfl rfl) (s_iload_n dX9_lay_25 rfl (s_iload_n dX9_lay_26 rfl (s_iushr dX9_lay_27 (s_i2b dX9_lay_28 (s_bastore dX9_lay_29 (hi.sh rfl rfl) ((K.2 q1).2 q5).1 (s_aload_n dX9_lay_30 rfl (s_dupr dX9_lay_31 (s_getI dX9_lay_32 flX9_19 (Or.inl rfl) (hi.sh rfl rfl) (s_iconst 1 dX9_lay_35 (by decide) (s_iadd dX9_lay_36 (s_putI dX9_lay_37 flX9_19 ff8_1 rfl (hi.sh rfl rfl) (s_iinc (-8) dX9_lay_40 rfl (by decide) (Nat.le_of_ble_eq_true rfl) rfl (s_goto 3 dX9_lay_43 rfl (((K.2 q1).2 q5).2)))))))))))))))))))))))
theorem eX9_lay {G : GX} {h : mH} {Q : mO → mH → Prop} {v1 : Int32} (hi : Iv h) (K : Vw G jX9_lay 3 [some (.ref 1), some (.int v1), some (.int 24)] [] h Q) : WM G jX9_lay [.ref 1, .int v1] h Q :=
  WM.body (ls := [some (.ref 1), some (.int v1), none]) rfl (by decide +kernel) rfl (Nat.le_of_ble_eq_true rfl) rfl ((bX9_lay_0 hi  K))
theorem dX9_begin_0 : decode cX9_begin 0 = .ok (.aload_n 0, 1) := by decide +kernel
theorem dX9_begin_1 : decode cX9_begin 1 = .ok (.iconst 0, 1) := by decide +kernel
theorem dX9_begin_2 : decode cX9_begin 2 = .ok (.iload_n 1, 1) := by decide +kernel
theorem dX9_begin_3 : decode cX9_begin 3 = .ok (.aload_n 0, 1) := by decide +kernel
theorem dX9_begin_4 : decode cX9_begin 4 = .ok (.getfield 19, 3) := by decide +kernel
theorem dX9_begin_7 : decode cX9_begin 7 = .ok (.invokestatic 22, 3) := by decide +kernel
theorem dX9_begin_10 : decode cX9_begin 10 = .ok (.invokestatic 28, 3) := by decide +kernel
theorem dX9_begin_13 : decode cX9_begin 13 = .ok (.putfield 31, 3) := by decide +kernel
theorem dX9_begin_16 : decode cX9_begin 16 = .ok (.aload_n 0, 1) := by decide +kernel
theorem dX9_begin_17 : decode cX9_begin 17 = .ok (.iconst 0, 1) := by decide +kernel
theorem dX9_begin_18 : decode cX9_begin 18 = .ok (.putfield 34, 3) := by decide +kernel
theorem dX9_begin_21 : decode cX9_begin 21 = .ok (.aload_n 0, 1) := by decide +kernel
theorem dX9_begin_22 : decode cX9_begin 22 = .ok (.iconst 0, 1) := by decide +kernel
theorem dX9_begin_23 : decode cX9_begin 23 = .ok (.putfield 37, 3) := by decide +kernel
theorem dX9_begin_26 : decode cX9_begin 26 = .ok (.aload_n 0, 1) := by decide +kernel
theorem dX9_begin_27 : decode cX9_begin 27 = .ok (.iconst (-1), 1) := by decide +kernel
theorem dX9_begin_28 : decode cX9_begin 28 = .ok (.putfield 15, 3) := by decide +kernel
theorem dX9_begin_31 : decode cX9_begin 31 = .ok (.aload_n 0, 1) := by decide +kernel
theorem dX9_begin_32 : decode cX9_begin 32 = .ok (.invokevirtual 40, 3) := by decide +kernel
theorem dX9_begin_35 : decode cX9_begin 35 = .ok (.return_, 1) := by decide +kernel
theorem bX9_begin_0 {G : GX} {h : mH} {Q : mO → mH → Prop} {v1 : Int32} (hi : Iv h) (K : WM G jX9_advance [.ref 1] (pI (pI (pI (pI h 1 5 (fJ9_max_7cf53 0 (fJ9_min_7cf53 v1 (gI h 1 1)))) 1 6 0) 1 2 0) 1 3 (-1)) (Aft G jX9_begin 32 [none, none] [] Q)) : Vw G jX9_begin 0 [some (.ref 1), some (.int v1)] [] h Q :=
  s_aload_n dX9_begin_0 rfl (s_iconst 0 dX9_begin_1 (by decide) (s_iload_n dX9_begin_2 rfl (s_aload_n dX9_begin_3 rfl (s_getI dX9_begin_4 flX9_19 (Or.inl rfl) (hi.sh rfl rfl) (s_callS (As := [.int v1, .int (gI h 1 1)]) dX9_begin_7 rfl lsX9_22 ⟨Nat.le_of_ble_eq_true rfl, Nat.le_of_ble_eq_true rfl⟩ rfl (Nat.le_of_ble_eq_true rfl) (mJ9_min_7cf53   (s_callS (As := [.int 0, .int (fJ9_min_7cf53 v1 (gI h 1 1))]) dX9_begin_10 rfl lsX9_28 ⟨Nat.le_of_ble_eq_true rfl, Nat.le_of_ble_eq_true rfl⟩ rfl (Nat.le_of_ble_eq_true rfl) (mJ9_max_7cf53   (s_putI dX9_begin_13 flX9_31 ff8_5 rfl (hi.sh rfl rfl) (s_aload_n dX9_begin_16 rfl (s_iconst 0 dX9_begin_17 (by decide) (s_putI dX9_begin_18 flX9_34 ff8_6 rfl (hi.sh rfl rfl) (s_aload_n dX9_begin_21 rfl (s_iconst 0 dX9_begin_22 (by decide) (s_putI dX9_begin_23 flX9_37 ff8_2 rfl (hi.sh rfl rfl) (s_aload_n dX9_begin_26 rfl (s_iconst (-1) dX9_begin_27 (by decide) (s_putI dX9_begin_28 flX9_15 ff8_3 rfl (hi.sh rfl rfl) (s_aload_n dX9_begin_31 rfl (Vw.mask [false, false] (s_callV (As := []) dX9_begin_32 rfl lvX9_40 ⟨Nat.le_of_ble_eq_true rfl, Nat.le_of_ble_eq_true rfl⟩ (hi.sh rfl rfl) ⟨_, _, by decide, rfl⟩ rfl (Nat.le_of_ble_eq_true rfl) (K))))))))))))))))))))))
theorem bX9_begin_35 {G : GX} {h : mH} {Q : mO → mH → Prop} (hi : Iv h) (K : Q (.inl none) h) : Vw G jX9_begin 35 [none, none] [] h Q :=
  s_return dX9_begin_35 rfl K
theorem eX9_begin {G : GX} {h : mH} {Q : mO → mH → Prop} {v1 : Int32} (hi : Iv h) (K : WM G jX9_advance [.ref 1] (pI (pI (pI (pI h 1 5 (fJ9_max_7cf53 0 (fJ9_min_7cf53 v1 (gI h 1 1)))) 1 6 0) 1 2 0) 1 3 (-1)) (Aft G jX9_begin 32 [none, none] [] Q)) : WM G jX9_begin [.ref 1, .int v1] h Q :=
  WM.body (ls := [some (.ref 1), some (.int v1)]) rfl (by decide +kernel) rfl (Nat.le_of_ble_eq_true rfl) rfl ((bX9_begin_0 hi  K))

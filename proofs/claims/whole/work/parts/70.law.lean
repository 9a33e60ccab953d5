set_option maxRecDepth 100000 in
set_option maxHeartbeats 4000000 in
theorem wkl_L_law_18 {X : Nat × (Nat → Int32)} {d : Nat} {P : Int32 → zh_M → Prop} : ∀ (n : Nat) (l3 : Int32) (M : zh_M) , wl_L_law_18 X P n l3 M → zh_W X (d + 8) yL_law cL_law 4 (some .boolean) 18 [some (.ref 0), some (.ref 1), some (.ref 39), some (.int l3)] [] zh_LL M 0 0 (zh_pi P) := by
  intro n
  induction n with
  | zero => intro l3 M  h; exact h.elim
  | succ n ih =>
    intro l3 M  h
    unfold wl_L_law_18 at h
    refine zh_iload_n (pn := 19) rfl dL_law_18 (i := 3) (x := l3) rfl rfl ?_
    refine zh_aload_n (pn := 20) rfl dL_law_19 (i := 0) (v := .ref 0) rfl rfl (Or.inr ⟨_, rfl⟩) ?_
    refine zh_slen (pn := 21) rfl dL_law_20 ?_
    refine zh_iconst (pn := 22) rfl dL_law_21 (v := (zI 5)) rfl ?_
    refine zh_isub (pn := 23) rfl dL_law_22 ?_
    refine zh_icmp_gt (pn := 26) rfl dL_law_23 (tgt := 824) rfl (fun cc1 => ?_) (fun cc1 => ?_)
    · replace h := h.1 cc1
      refine zh_iconst (pn := 825) rfl dL_law_824 (v := (zI 1)) rfl ?_
      exact zh_iret dL_law_825 rfl rfl ⟨_, rfl, rfl, h⟩
    · replace h := h.2 cc1
      refine zh_aload_n (pn := 27) rfl dL_law_26 (i := 0) (v := .ref 0) rfl rfl (Or.inr ⟨_, rfl⟩) ?_
      refine zh_iload_n (pn := 28) rfl dL_law_27 (i := 3) (x := l3) rfl rfl ?_
      refine zh_sld (pn := 29) rfl dL_law_28 h.1 ?_
      replace h := h.2
      refine zh_bipush (pn := 31) rfl dL_law_29 (v := (zI 31)) rfl ?_
      refine zh_iand (pn := 32) rfl dL_law_31 ?_
      by_cases cc1 : ((X.2 l3.toNatClampNeg) &&& (zI 31)).toInt < 0 ∨ 19 < ((X.2 l3.toNatClampNeg) &&& (zI 31)).toInt
      · replace h := h.1 cc1
        refine zh_tableOut dL_law_32 cc1 (tgt := 818) rfl ?_
        refine zh_iinc (pn := 821) rfl dL_law_818 (i := 3) (x := l3) (v := l3 + (zI 5)) (lo' := [some (.ref 0), some (.ref 1), some (.ref 39), some (.int (l3 + (zI 5)))]) rfl rfl (by decide) rfl ?_
        refine zh_goto dL_law_821 (tgt := 18) rfl ?_
        exact ih _ _ h
      · replace h := h.2
        rcases (show ((X.2 l3.toNatClampNeg) &&& (zI 31)).toInt = 0 ∨ ((X.2 l3.toNatClampNeg) &&& (zI 31)).toInt = 1 ∨ ((X.2 l3.toNatClampNeg) &&& (zI 31)).toInt = 2 ∨ ((X.2 l3.toNatClampNeg) &&& (zI 31)).toInt = 3 ∨ ((X.2 l3.toNatClampNeg) &&& (zI 31)).toInt = 4 ∨ ((X.2 l3.toNatClampNeg) &&& (zI 31)).toInt = 5 ∨ ((X.2 l3.toNatClampNeg) &&& (zI 31)).toInt = 6 ∨ ((X.2 l3.toNatClampNeg) &&& (zI 31)).toInt = 7 ∨ ((X.2 l3.toNatClampNeg) &&& (zI 31)).toInt = 8 ∨ ((X.2 l3.toNatClampNeg) &&& (zI 31)).toInt = 9 ∨ ((X.2 l3.toNatClampNeg) &&& (zI 31)).toInt = 10 ∨ ((X.2 l3.toNatClampNeg) &&& (zI 31)).toInt = 11 ∨ ((X.2 l3.toNatClampNeg) &&& (zI 31)).toInt = 12 ∨ ((X.2 l3.toNatClampNeg) &&& (zI 31)).toInt = 13 ∨ ((X.2 l3.toNatClampNeg) &&& (zI 31)).toInt = 14 ∨ ((X.2 l3.toNatClampNeg) &&& (zI 31)).toInt = 15 ∨ ((X.2 l3.toNatClampNeg) &&& (zI 31)).toInt = 16 ∨ ((X.2 l3.toNatClampNeg) &&& (zI 31)).toInt = 17 ∨ ((X.2 l3.toNatClampNeg) &&& (zI 31)).toInt = 18 ∨ ((X.2 l3.toNatClampNeg) &&& (zI 31)).toInt = 19 by omega) with cc2 | cc2 | cc2 | cc2 | cc2 | cc2 | cc2 | cc2 | cc2 | cc2 | cc2 | cc2 | cc2 | cc2 | cc2 | cc2 | cc2 | cc2 | cc2 | cc2
        · replace h := h.1 cc2
          refine zh_tableIn dL_law_32 (by omega) (by omega) (by rw [cc2]; rfl) (tgt := 128) rfl ?_
          refine zh_aload_n (pn := 129) rfl dL_law_128 (i := 1) (v := .ref 1) rfl rfl (Or.inr ⟨_, rfl⟩) ?_
          refine zh_aload_n (pn := 130) rfl dL_law_129 (i := 0) (v := .ref 0) rfl rfl (Or.inr ⟨_, rfl⟩) ?_
          refine zh_iload_n (pn := 131) rfl dL_law_130 (i := 3) (x := l3) rfl rfl ?_
          refine zh_iconst (pn := 132) rfl dL_law_131 (v := (zI 1)) rfl ?_
          refine zh_iadd (pn := 133) rfl dL_law_132 ?_
          refine zh_sld (pn := 134) rfl dL_law_133 h.1 ?_
          replace h := h.2
          refine zh_aload_n (pn := 135) rfl dL_law_134 (i := 0) (v := .ref 0) rfl rfl (Or.inr ⟨_, rfl⟩) ?_
          refine zh_iload_n (pn := 136) rfl dL_law_135 (i := 3) (x := l3) rfl rfl ?_
          refine zh_iconst (pn := 137) rfl dL_law_136 (v := (zI 2)) rfl ?_
          refine zh_iadd (pn := 138) rfl dL_law_137 ?_
          refine zh_sld (pn := 139) rfl dL_law_138 h.1 ?_
          replace h := h.2
          refine ca_X4_spawn (pn := 142) rfl dL_law_139 mc_L_13 (fun _ _ => Nat.le_of_ble_eq_true rfl) h (fun r2 M1 h => ?_)
          refine zh_aload_n (pn := 143) rfl dL_law_142 (i := 2) (v := .ref 39) rfl rfl (Or.inr ⟨_, rfl⟩) ?_
          refine zh_aload_n (pn := 144) rfl dL_law_143 (i := 0) (v := .ref 0) rfl rfl (Or.inr ⟨_, rfl⟩) ?_
          refine zh_iload_n (pn := 145) rfl dL_law_144 (i := 3) (x := l3) rfl rfl ?_
          refine zh_iconst (pn := 146) rfl dL_law_145 (v := (zI 1)) rfl ?_
          refine zh_iadd (pn := 147) rfl dL_law_146 ?_
          refine zh_sld (pn := 148) rfl dL_law_147 h.1 ?_
          replace h := h.2
          refine zh_aload_n (pn := 149) rfl dL_law_148 (i := 0) (v := .ref 0) rfl rfl (Or.inr ⟨_, rfl⟩) ?_
          refine zh_iload_n (pn := 150) rfl dL_law_149 (i := 3) (x := l3) rfl rfl ?_
          refine zh_iconst (pn := 151) rfl dL_law_150 (v := (zI 2)) rfl ?_
          refine zh_iadd (pn := 152) rfl dL_law_151 ?_
          refine zh_sld (pn := 153) rfl dL_law_152 h.1 ?_
          replace h := h.2
          refine ca_X5_spawn (pn := 156) rfl dL_law_153 mc_L_17 (fun _ _ => Nat.le_of_ble_eq_true rfl) h (fun r4 M3 h => ?_)
          refine zh_icmp_eq (pn := 159) rfl dL_law_156 (tgt := 818) rfl (fun cc1 => ?_) (fun cc1 => ?_)
          · replace h := h.1 cc1
            refine zh_iinc (pn := 821) rfl dL_law_818 (i := 3) (x := l3) (v := l3 + (zI 5)) (lo' := [some (.ref 0), some (.ref 1), some (.ref 39), some (.int (l3 + (zI 5)))]) rfl rfl (by decide) rfl ?_
            refine zh_goto dL_law_821 (tgt := 18) rfl ?_
            exact ih _ _ h
          · replace h := h.2 cc1
            refine zh_iconst (pn := 160) rfl dL_law_159 (v := (zI 0)) rfl ?_
            exact zh_iret dL_law_160 rfl rfl ⟨_, rfl, rfl, h⟩
        · replace h := h.2.1 cc2
          refine zh_tableIn dL_law_32 (by omega) (by omega) (by rw [cc2]; rfl) (tgt := 161) rfl ?_
          refine zh_aload_n (pn := 162) rfl dL_law_161 (i := 1) (v := .ref 1) rfl rfl (Or.inr ⟨_, rfl⟩) ?_
          refine zh_aload_n (pn := 163) rfl dL_law_162 (i := 0) (v := .ref 0) rfl rfl (Or.inr ⟨_, rfl⟩) ?_
          refine zh_iload_n (pn := 164) rfl dL_law_163 (i := 3) (x := l3) rfl rfl ?_
          refine zh_iconst (pn := 165) rfl dL_law_164 (v := (zI 1)) rfl ?_
          refine zh_iadd (pn := 166) rfl dL_law_165 ?_
          refine zh_sld (pn := 167) rfl dL_law_166 h.1 ?_
          replace h := h.2
          refine ca_X4_end (pn := 170) rfl dL_law_167 mc_L_18 (fun _ _ => Nat.le_of_ble_eq_true rfl) h (fun r6 M5 h => ?_)
          refine zh_aload_n (pn := 171) rfl dL_law_170 (i := 2) (v := .ref 39) rfl rfl (Or.inr ⟨_, rfl⟩) ?_
          refine zh_aload_n (pn := 172) rfl dL_law_171 (i := 0) (v := .ref 0) rfl rfl (Or.inr ⟨_, rfl⟩) ?_
          refine zh_iload_n (pn := 173) rfl dL_law_172 (i := 3) (x := l3) rfl rfl ?_
          refine zh_iconst (pn := 174) rfl dL_law_173 (v := (zI 1)) rfl ?_
          refine zh_iadd (pn := 175) rfl dL_law_174 ?_
          refine zh_sld (pn := 176) rfl dL_law_175 h.1 ?_
          replace h := h.2
          refine ca_X5_end (pn := 179) rfl dL_law_176 mc_L_22 (fun _ _ => Nat.le_of_ble_eq_true rfl) h (fun r8 M7 h => ?_)
          refine zh_icmp_eq (pn := 182) rfl dL_law_179 (tgt := 818) rfl (fun cc1 => ?_) (fun cc1 => ?_)
          · replace h := h.1 cc1
            refine zh_iinc (pn := 821) rfl dL_law_818 (i := 3) (x := l3) (v := l3 + (zI 5)) (lo' := [some (.ref 0), some (.ref 1), some (.ref 39), some (.int (l3 + (zI 5)))]) rfl rfl (by decide) rfl ?_
            refine zh_goto dL_law_821 (tgt := 18) rfl ?_
            exact ih _ _ h
          · replace h := h.2 cc1
            refine zh_iconst (pn := 183) rfl dL_law_182 (v := (zI 0)) rfl ?_
            exact zh_iret dL_law_183 rfl rfl ⟨_, rfl, rfl, h⟩
        · replace h := h.2.2.1 cc2
          refine zh_tableIn dL_law_32 (by omega) (by omega) (by rw [cc2]; rfl) (tgt := 184) rfl ?_
          refine zh_aload_n (pn := 185) rfl dL_law_184 (i := 1) (v := .ref 1) rfl rfl (Or.inr ⟨_, rfl⟩) ?_
          refine zh_aload_n (pn := 186) rfl dL_law_185 (i := 0) (v := .ref 0) rfl rfl (Or.inr ⟨_, rfl⟩) ?_
          refine zh_iload_n (pn := 187) rfl dL_law_186 (i := 3) (x := l3) rfl rfl ?_
          refine zh_iconst (pn := 188) rfl dL_law_187 (v := (zI 1)) rfl ?_
          refine zh_iadd (pn := 189) rfl dL_law_188 ?_
          refine zh_sld (pn := 190) rfl dL_law_189 h.1 ?_
          replace h := h.2
          refine ca_X4_wake (pn := 193) rfl dL_law_190 mc_L_23 (fun _ _ => Nat.le_of_ble_eq_true rfl) h (fun r10 M9 h => ?_)
          refine zh_aload_n (pn := 194) rfl dL_law_193 (i := 2) (v := .ref 39) rfl rfl (Or.inr ⟨_, rfl⟩) ?_
          refine zh_aload_n (pn := 195) rfl dL_law_194 (i := 0) (v := .ref 0) rfl rfl (Or.inr ⟨_, rfl⟩) ?_
          refine zh_iload_n (pn := 196) rfl dL_law_195 (i := 3) (x := l3) rfl rfl ?_
          refine zh_iconst (pn := 197) rfl dL_law_196 (v := (zI 1)) rfl ?_
          refine zh_iadd (pn := 198) rfl dL_law_197 ?_
          refine zh_sld (pn := 199) rfl dL_law_198 h.1 ?_
          replace h := h.2
          refine ca_X5_wake (pn := 202) rfl dL_law_199 mc_L_26 (fun _ _ => Nat.le_of_ble_eq_true rfl) h (fun r12 M11 h => ?_)
          refine zh_icmp_eq (pn := 205) rfl dL_law_202 (tgt := 818) rfl (fun cc1 => ?_) (fun cc1 => ?_)
          · replace h := h.1 cc1
            refine zh_iinc (pn := 821) rfl dL_law_818 (i := 3) (x := l3) (v := l3 + (zI 5)) (lo' := [some (.ref 0), some (.ref 1), some (.ref 39), some (.int (l3 + (zI 5)))]) rfl rfl (by decide) rfl ?_
            refine zh_goto dL_law_821 (tgt := 18) rfl ?_
            exact ih _ _ h
          · replace h := h.2 cc1
            refine zh_iconst (pn := 206) rfl dL_law_205 (v := (zI 0)) rfl ?_
            exact zh_iret dL_law_206 rfl rfl ⟨_, rfl, rfl, h⟩
        · replace h := h.2.2.2.1 cc2
          refine zh_tableIn dL_law_32 (by omega) (by omega) (by rw [cc2]; rfl) (tgt := 207) rfl ?_
          refine zh_aload_n (pn := 208) rfl dL_law_207 (i := 1) (v := .ref 1) rfl rfl (Or.inr ⟨_, rfl⟩) ?_
          refine zh_aload_n (pn := 209) rfl dL_law_208 (i := 0) (v := .ref 0) rfl rfl (Or.inr ⟨_, rfl⟩) ?_
          refine zh_iload_n (pn := 210) rfl dL_law_209 (i := 3) (x := l3) rfl rfl ?_
          refine zh_iconst (pn := 211) rfl dL_law_210 (v := (zI 1)) rfl ?_
          refine zh_iadd (pn := 212) rfl dL_law_211 ?_
          refine zh_sld (pn := 213) rfl dL_law_212 h.1 ?_
          replace h := h.2
          refine ca_X4_call (pn := 216) rfl dL_law_213 mc_L_27 (fun _ _ => Nat.le_of_ble_eq_true rfl) h (fun r14 M13 h => ?_)
          refine zh_aload_n (pn := 217) rfl dL_law_216 (i := 2) (v := .ref 39) rfl rfl (Or.inr ⟨_, rfl⟩) ?_
          refine zh_aload_n (pn := 218) rfl dL_law_217 (i := 0) (v := .ref 0) rfl rfl (Or.inr ⟨_, rfl⟩) ?_
          refine zh_iload_n (pn := 219) rfl dL_law_218 (i := 3) (x := l3) rfl rfl ?_
          refine zh_iconst (pn := 220) rfl dL_law_219 (v := (zI 1)) rfl ?_
          refine zh_iadd (pn := 221) rfl dL_law_220 ?_
          refine zh_sld (pn := 222) rfl dL_law_221 h.1 ?_
          replace h := h.2
          refine ca_X5_call (pn := 225) rfl dL_law_222 mc_L_30 (fun _ _ => Nat.le_of_ble_eq_true rfl) h (fun r16 M15 h => ?_)
          refine zh_icmp_eq (pn := 228) rfl dL_law_225 (tgt := 818) rfl (fun cc1 => ?_) (fun cc1 => ?_)
          · replace h := h.1 cc1
            refine zh_iinc (pn := 821) rfl dL_law_818 (i := 3) (x := l3) (v := l3 + (zI 5)) (lo' := [some (.ref 0), some (.ref 1), some (.ref 39), some (.int (l3 + (zI 5)))]) rfl rfl (by decide) rfl ?_
            refine zh_goto dL_law_821 (tgt := 18) rfl ?_
            exact ih _ _ h
          · replace h := h.2 cc1
            refine zh_iconst (pn := 229) rfl dL_law_228 (v := (zI 0)) rfl ?_
            exact zh_iret dL_law_229 rfl rfl ⟨_, rfl, rfl, h⟩
        · replace h := h.2.2.2.2.1 cc2
          refine zh_tableIn dL_law_32 (by omega) (by omega) (by rw [cc2]; rfl) (tgt := 230) rfl ?_
          refine zh_aload_n (pn := 231) rfl dL_law_230 (i := 1) (v := .ref 1) rfl rfl (Or.inr ⟨_, rfl⟩) ?_
          refine zh_aload_n (pn := 232) rfl dL_law_231 (i := 0) (v := .ref 0) rfl rfl (Or.inr ⟨_, rfl⟩) ?_
          refine zh_iload_n (pn := 233) rfl dL_law_232 (i := 3) (x := l3) rfl rfl ?_
          refine zh_iconst (pn := 234) rfl dL_law_233 (v := (zI 1)) rfl ?_
          refine zh_iadd (pn := 235) rfl dL_law_234 ?_
          refine zh_sld (pn := 236) rfl dL_law_235 h.1 ?_
          replace h := h.2
          refine ca_X4_leave (pn := 239) rfl dL_law_236 mc_L_31 (fun _ _ => Nat.le_of_ble_eq_true rfl) h (fun r18 M17 h => ?_)
          refine zh_aload_n (pn := 240) rfl dL_law_239 (i := 2) (v := .ref 39) rfl rfl (Or.inr ⟨_, rfl⟩) ?_
          refine zh_aload_n (pn := 241) rfl dL_law_240 (i := 0) (v := .ref 0) rfl rfl (Or.inr ⟨_, rfl⟩) ?_
          refine zh_iload_n (pn := 242) rfl dL_law_241 (i := 3) (x := l3) rfl rfl ?_
          refine zh_iconst (pn := 243) rfl dL_law_242 (v := (zI 1)) rfl ?_
          refine zh_iadd (pn := 244) rfl dL_law_243 ?_
          refine zh_sld (pn := 245) rfl dL_law_244 h.1 ?_
          replace h := h.2
          refine ca_X5_leave (pn := 248) rfl dL_law_245 mc_L_34 (fun _ _ => Nat.le_of_ble_eq_true rfl) h (fun r20 M19 h => ?_)
          refine zh_icmp_eq (pn := 251) rfl dL_law_248 (tgt := 818) rfl (fun cc1 => ?_) (fun cc1 => ?_)
          · replace h := h.1 cc1
            refine zh_iinc (pn := 821) rfl dL_law_818 (i := 3) (x := l3) (v := l3 + (zI 5)) (lo' := [some (.ref 0), some (.ref 1), some (.ref 39), some (.int (l3 + (zI 5)))]) rfl rfl (by decide) rfl ?_
            refine zh_goto dL_law_821 (tgt := 18) rfl ?_
            exact ih _ _ h
          · replace h := h.2 cc1
            refine zh_iconst (pn := 252) rfl dL_law_251 (v := (zI 0)) rfl ?_
            exact zh_iret dL_law_252 rfl rfl ⟨_, rfl, rfl, h⟩
        · replace h := h.2.2.2.2.2.1 cc2
          refine zh_tableIn dL_law_32 (by omega) (by omega) (by rw [cc2]; rfl) (tgt := 253) rfl ?_
          refine zh_aload_n (pn := 254) rfl dL_law_253 (i := 1) (v := .ref 1) rfl rfl (Or.inr ⟨_, rfl⟩) ?_
          refine zh_aload_n (pn := 255) rfl dL_law_254 (i := 0) (v := .ref 0) rfl rfl (Or.inr ⟨_, rfl⟩) ?_
          refine zh_iload_n (pn := 256) rfl dL_law_255 (i := 3) (x := l3) rfl rfl ?_
          refine zh_iconst (pn := 257) rfl dL_law_256 (v := (zI 1)) rfl ?_
          refine zh_iadd (pn := 258) rfl dL_law_257 ?_
          refine zh_sld (pn := 259) rfl dL_law_258 h.1 ?_
          replace h := h.2
          refine zh_aload_n (pn := 260) rfl dL_law_259 (i := 0) (v := .ref 0) rfl rfl (Or.inr ⟨_, rfl⟩) ?_
          refine zh_iload_n (pn := 261) rfl dL_law_260 (i := 3) (x := l3) rfl rfl ?_
          refine zh_iconst (pn := 262) rfl dL_law_261 (v := (zI 2)) rfl ?_
          refine zh_iadd (pn := 263) rfl dL_law_262 ?_
          refine zh_sld (pn := 264) rfl dL_law_263 h.1 ?_
          replace h := h.2
          refine ca_X4_aim (pn := 267) rfl dL_law_264 mc_L_35 (fun _ _ => Nat.le_of_ble_eq_true rfl) h (fun r22 M21 h => ?_)
          refine zh_aload_n (pn := 268) rfl dL_law_267 (i := 2) (v := .ref 39) rfl rfl (Or.inr ⟨_, rfl⟩) ?_
          refine zh_aload_n (pn := 269) rfl dL_law_268 (i := 0) (v := .ref 0) rfl rfl (Or.inr ⟨_, rfl⟩) ?_
          refine zh_iload_n (pn := 270) rfl dL_law_269 (i := 3) (x := l3) rfl rfl ?_
          refine zh_iconst (pn := 271) rfl dL_law_270 (v := (zI 1)) rfl ?_
          refine zh_iadd (pn := 272) rfl dL_law_271 ?_
          refine zh_sld (pn := 273) rfl dL_law_272 h.1 ?_
          replace h := h.2
          refine zh_aload_n (pn := 274) rfl dL_law_273 (i := 0) (v := .ref 0) rfl rfl (Or.inr ⟨_, rfl⟩) ?_
          refine zh_iload_n (pn := 275) rfl dL_law_274 (i := 3) (x := l3) rfl rfl ?_
          refine zh_iconst (pn := 276) rfl dL_law_275 (v := (zI 2)) rfl ?_
          refine zh_iadd (pn := 277) rfl dL_law_276 ?_
          refine zh_sld (pn := 278) rfl dL_law_277 h.1 ?_
          replace h := h.2
          refine ca_X5_aim (pn := 281) rfl dL_law_278 mc_L_39 (fun _ _ => Nat.le_of_ble_eq_true rfl) h (fun r24 M23 h => ?_)
          refine zh_icmp_eq (pn := 284) rfl dL_law_281 (tgt := 818) rfl (fun cc1 => ?_) (fun cc1 => ?_)
          · replace h := h.1 cc1
            refine zh_iinc (pn := 821) rfl dL_law_818 (i := 3) (x := l3) (v := l3 + (zI 5)) (lo' := [some (.ref 0), some (.ref 1), some (.ref 39), some (.int (l3 + (zI 5)))]) rfl rfl (by decide) rfl ?_
            refine zh_goto dL_law_821 (tgt := 18) rfl ?_
            exact ih _ _ h
          · replace h := h.2 cc1
            refine zh_iconst (pn := 285) rfl dL_law_284 (v := (zI 0)) rfl ?_
            exact zh_iret dL_law_285 rfl rfl ⟨_, rfl, rfl, h⟩
        · replace h := h.2.2.2.2.2.2.1 cc2
          refine zh_tableIn dL_law_32 (by omega) (by omega) (by rw [cc2]; rfl) (tgt := 286) rfl ?_
          refine zh_aload_n (pn := 287) rfl dL_law_286 (i := 1) (v := .ref 1) rfl rfl (Or.inr ⟨_, rfl⟩) ?_
          refine zh_aload_n (pn := 288) rfl dL_law_287 (i := 0) (v := .ref 0) rfl rfl (Or.inr ⟨_, rfl⟩) ?_
          refine zh_iload_n (pn := 289) rfl dL_law_288 (i := 3) (x := l3) rfl rfl ?_
          refine zh_iconst (pn := 290) rfl dL_law_289 (v := (zI 1)) rfl ?_
          refine zh_iadd (pn := 291) rfl dL_law_290 ?_
          refine zh_sld (pn := 292) rfl dL_law_291 h.1 ?_
          replace h := h.2
          refine zh_aload_n (pn := 293) rfl dL_law_292 (i := 0) (v := .ref 0) rfl rfl (Or.inr ⟨_, rfl⟩) ?_
          refine zh_iload_n (pn := 294) rfl dL_law_293 (i := 3) (x := l3) rfl rfl ?_
          refine zh_iconst (pn := 295) rfl dL_law_294 (v := (zI 2)) rfl ?_
          refine zh_iadd (pn := 296) rfl dL_law_295 ?_
          refine zh_sld (pn := 297) rfl dL_law_296 h.1 ?_
          replace h := h.2
          refine zh_aload_n (pn := 298) rfl dL_law_297 (i := 0) (v := .ref 0) rfl rfl (Or.inr ⟨_, rfl⟩) ?_
          refine zh_iload_n (pn := 299) rfl dL_law_298 (i := 3) (x := l3) rfl rfl ?_
          refine zh_iconst (pn := 300) rfl dL_law_299 (v := (zI 3)) rfl ?_
          refine zh_iadd (pn := 301) rfl dL_law_300 ?_
          refine zh_sld (pn := 302) rfl dL_law_301 h.1 ?_
          replace h := h.2
          refine ca_X4_copy (pn := 305) rfl dL_law_302 mc_L_40 (fun _ _ => Nat.le_of_ble_eq_true rfl) h (fun r26 M25 h => ?_)
          refine zh_aload_n (pn := 306) rfl dL_law_305 (i := 2) (v := .ref 39) rfl rfl (Or.inr ⟨_, rfl⟩) ?_
          refine zh_aload_n (pn := 307) rfl dL_law_306 (i := 0) (v := .ref 0) rfl rfl (Or.inr ⟨_, rfl⟩) ?_
          refine zh_iload_n (pn := 308) rfl dL_law_307 (i := 3) (x := l3) rfl rfl ?_
          refine zh_iconst (pn := 309) rfl dL_law_308 (v := (zI 1)) rfl ?_
          refine zh_iadd (pn := 310) rfl dL_law_309 ?_
          refine zh_sld (pn := 311) rfl dL_law_310 h.1 ?_
          replace h := h.2
          refine zh_aload_n (pn := 312) rfl dL_law_311 (i := 0) (v := .ref 0) rfl rfl (Or.inr ⟨_, rfl⟩) ?_
          refine zh_iload_n (pn := 313) rfl dL_law_312 (i := 3) (x := l3) rfl rfl ?_
          refine zh_iconst (pn := 314) rfl dL_law_313 (v := (zI 2)) rfl ?_
          refine zh_iadd (pn := 315) rfl dL_law_314 ?_
          refine zh_sld (pn := 316) rfl dL_law_315 h.1 ?_
          replace h := h.2
          refine zh_aload_n (pn := 317) rfl dL_law_316 (i := 0) (v := .ref 0) rfl rfl (Or.inr ⟨_, rfl⟩) ?_
          refine zh_iload_n (pn := 318) rfl dL_law_317 (i := 3) (x := l3) rfl rfl ?_
          refine zh_iconst (pn := 319) rfl dL_law_318 (v := (zI 3)) rfl ?_
          refine zh_iadd (pn := 320) rfl dL_law_319 ?_
          refine zh_sld (pn := 321) rfl dL_law_320 h.1 ?_
          replace h := h.2
          refine ca_X5_copy (pn := 324) rfl dL_law_321 mc_L_44 (fun _ _ => Nat.le_of_ble_eq_true rfl) h (fun r28 M27 h => ?_)
          refine zh_icmp_eq (pn := 327) rfl dL_law_324 (tgt := 818) rfl (fun cc1 => ?_) (fun cc1 => ?_)
          · replace h := h.1 cc1
            refine zh_iinc (pn := 821) rfl dL_law_818 (i := 3) (x := l3) (v := l3 + (zI 5)) (lo' := [some (.ref 0), some (.ref 1), some (.ref 39), some (.int (l3 + (zI 5)))]) rfl rfl (by decide) rfl ?_
            refine zh_goto dL_law_821 (tgt := 18) rfl ?_
            exact ih _ _ h
          · replace h := h.2 cc1
            refine zh_iconst (pn := 328) rfl dL_law_327 (v := (zI 0)) rfl ?_
            exact zh_iret dL_law_328 rfl rfl ⟨_, rfl, rfl, h⟩
        · replace h := h.2.2.2.2.2.2.2.1 cc2
          refine zh_tableIn dL_law_32 (by omega) (by omega) (by rw [cc2]; rfl) (tgt := 329) rfl ?_
          refine zh_aload_n (pn := 330) rfl dL_law_329 (i := 1) (v := .ref 1) rfl rfl (Or.inr ⟨_, rfl⟩) ?_
          refine zh_aload_n (pn := 331) rfl dL_law_330 (i := 0) (v := .ref 0) rfl rfl (Or.inr ⟨_, rfl⟩) ?_
          refine zh_iload_n (pn := 332) rfl dL_law_331 (i := 3) (x := l3) rfl rfl ?_
          refine zh_iconst (pn := 333) rfl dL_law_332 (v := (zI 1)) rfl ?_
          refine zh_iadd (pn := 334) rfl dL_law_333 ?_
          refine zh_sld (pn := 335) rfl dL_law_334 h.1 ?_
          replace h := h.2
          refine zh_aload_n (pn := 336) rfl dL_law_335 (i := 0) (v := .ref 0) rfl rfl (Or.inr ⟨_, rfl⟩) ?_
          refine zh_iload_n (pn := 337) rfl dL_law_336 (i := 3) (x := l3) rfl rfl ?_
          refine zh_iconst (pn := 338) rfl dL_law_337 (v := (zI 2)) rfl ?_
          refine zh_iadd (pn := 339) rfl dL_law_338 ?_
          refine zh_sld (pn := 340) rfl dL_law_339 h.1 ?_
          replace h := h.2
          refine zh_aload_n (pn := 341) rfl dL_law_340 (i := 0) (v := .ref 0) rfl rfl (Or.inr ⟨_, rfl⟩) ?_
          refine zh_iload_n (pn := 342) rfl dL_law_341 (i := 3) (x := l3) rfl rfl ?_
          refine zh_iconst (pn := 343) rfl dL_law_342 (v := (zI 3)) rfl ?_
          refine zh_iadd (pn := 344) rfl dL_law_343 ?_
          refine zh_sld (pn := 345) rfl dL_law_344 h.1 ?_
          replace h := h.2
          refine zh_aload_n (pn := 346) rfl dL_law_345 (i := 0) (v := .ref 0) rfl rfl (Or.inr ⟨_, rfl⟩) ?_
          refine zh_iload_n (pn := 347) rfl dL_law_346 (i := 3) (x := l3) rfl rfl ?_
          refine zh_iconst (pn := 348) rfl dL_law_347 (v := (zI 4)) rfl ?_
          refine zh_iadd (pn := 349) rfl dL_law_348 ?_
          refine zh_sld (pn := 350) rfl dL_law_349 h.1 ?_
          replace h := h.2
          refine ca_X4_make (pn := 353) rfl dL_law_350 mc_L_45 (fun _ _ => Nat.le_of_ble_eq_true rfl) h (fun r30 M29 h => ?_)
          refine zh_aload_n (pn := 354) rfl dL_law_353 (i := 2) (v := .ref 39) rfl rfl (Or.inr ⟨_, rfl⟩) ?_
          refine zh_aload_n (pn := 355) rfl dL_law_354 (i := 0) (v := .ref 0) rfl rfl (Or.inr ⟨_, rfl⟩) ?_
          refine zh_iload_n (pn := 356) rfl dL_law_355 (i := 3) (x := l3) rfl rfl ?_
          refine zh_iconst (pn := 357) rfl dL_law_356 (v := (zI 1)) rfl ?_
          refine zh_iadd (pn := 358) rfl dL_law_357 ?_
          refine zh_sld (pn := 359) rfl dL_law_358 h.1 ?_
          replace h := h.2
          refine zh_aload_n (pn := 360) rfl dL_law_359 (i := 0) (v := .ref 0) rfl rfl (Or.inr ⟨_, rfl⟩) ?_
          refine zh_iload_n (pn := 361) rfl dL_law_360 (i := 3) (x := l3) rfl rfl ?_
          refine zh_iconst (pn := 362) rfl dL_law_361 (v := (zI 2)) rfl ?_
          refine zh_iadd (pn := 363) rfl dL_law_362 ?_
          refine zh_sld (pn := 364) rfl dL_law_363 h.1 ?_
          replace h := h.2
          refine zh_aload_n (pn := 365) rfl dL_law_364 (i := 0) (v := .ref 0) rfl rfl (Or.inr ⟨_, rfl⟩) ?_
          refine zh_iload_n (pn := 366) rfl dL_law_365 (i := 3) (x := l3) rfl rfl ?_
          refine zh_iconst (pn := 367) rfl dL_law_366 (v := (zI 3)) rfl ?_
          refine zh_iadd (pn := 368) rfl dL_law_367 ?_
          refine zh_sld (pn := 369) rfl dL_law_368 h.1 ?_
          replace h := h.2
          refine zh_aload_n (pn := 370) rfl dL_law_369 (i := 0) (v := .ref 0) rfl rfl (Or.inr ⟨_, rfl⟩) ?_
          refine zh_iload_n (pn := 371) rfl dL_law_370 (i := 3) (x := l3) rfl rfl ?_
          refine zh_iconst (pn := 372) rfl dL_law_371 (v := (zI 4)) rfl ?_
          refine zh_iadd (pn := 373) rfl dL_law_372 ?_
          refine zh_sld (pn := 374) rfl dL_law_373 h.1 ?_
          replace h := h.2
          refine ca_X5_make (pn := 377) rfl dL_law_374 mc_L_49 (fun _ _ => Nat.le_of_ble_eq_true rfl) h (fun r32 M31 h => ?_)
          refine zh_icmp_eq (pn := 380) rfl dL_law_377 (tgt := 818) rfl (fun cc1 => ?_) (fun cc1 => ?_)
          · replace h := h.1 cc1
            refine zh_iinc (pn := 821) rfl dL_law_818 (i := 3) (x := l3) (v := l3 + (zI 5)) (lo' := [some (.ref 0), some (.ref 1), some (.ref 39), some (.int (l3 + (zI 5)))]) rfl rfl (by decide) rfl ?_
            refine zh_goto dL_law_821 (tgt := 18) rfl ?_
            exact ih _ _ h
          · replace h := h.2 cc1
            refine zh_iconst (pn := 381) rfl dL_law_380 (v := (zI 0)) rfl ?_
            exact zh_iret dL_law_381 rfl rfl ⟨_, rfl, rfl, h⟩
        · replace h := h.2.2.2.2.2.2.2.2.1 cc2
          refine zh_tableIn dL_law_32 (by omega) (by omega) (by rw [cc2]; rfl) (tgt := 382) rfl ?_
          refine zh_aload_n (pn := 383) rfl dL_law_382 (i := 1) (v := .ref 1) rfl rfl (Or.inr ⟨_, rfl⟩) ?_
          refine zh_aload_n (pn := 384) rfl dL_law_383 (i := 0) (v := .ref 0) rfl rfl (Or.inr ⟨_, rfl⟩) ?_
          refine zh_iload_n (pn := 385) rfl dL_law_384 (i := 3) (x := l3) rfl rfl ?_
          refine zh_iconst (pn := 386) rfl dL_law_385 (v := (zI 1)) rfl ?_
          refine zh_iadd (pn := 387) rfl dL_law_386 ?_
          refine zh_sld (pn := 388) rfl dL_law_387 h.1 ?_
          replace h := h.2
          refine zh_aload_n (pn := 389) rfl dL_law_388 (i := 0) (v := .ref 0) rfl rfl (Or.inr ⟨_, rfl⟩) ?_
          refine zh_iload_n (pn := 390) rfl dL_law_389 (i := 3) (x := l3) rfl rfl ?_
          refine zh_iconst (pn := 391) rfl dL_law_390 (v := (zI 2)) rfl ?_
          refine zh_iadd (pn := 392) rfl dL_law_391 ?_
          refine zh_sld (pn := 393) rfl dL_law_392 h.1 ?_
          replace h := h.2
          refine zh_aload_n (pn := 394) rfl dL_law_393 (i := 0) (v := .ref 0) rfl rfl (Or.inr ⟨_, rfl⟩) ?_
          refine zh_iload_n (pn := 395) rfl dL_law_394 (i := 3) (x := l3) rfl rfl ?_
          refine zh_iconst (pn := 396) rfl dL_law_395 (v := (zI 3)) rfl ?_
          refine zh_iadd (pn := 397) rfl dL_law_396 ?_
          refine zh_sld (pn := 398) rfl dL_law_397 h.1 ?_
          replace h := h.2
          refine zh_aload_n (pn := 399) rfl dL_law_398 (i := 0) (v := .ref 0) rfl rfl (Or.inr ⟨_, rfl⟩) ?_
          refine zh_iload_n (pn := 400) rfl dL_law_399 (i := 3) (x := l3) rfl rfl ?_
          refine zh_iconst (pn := 401) rfl dL_law_400 (v := (zI 4)) rfl ?_
          refine zh_iadd (pn := 402) rfl dL_law_401 ?_
          refine zh_sld (pn := 403) rfl dL_law_402 h.1 ?_
          replace h := h.2
          refine ca_X4_set (pn := 406) rfl dL_law_403 mc_L_50 (fun _ _ => Nat.le_of_ble_eq_true rfl) h (fun r34 M33 h => ?_)
          refine zh_aload_n (pn := 407) rfl dL_law_406 (i := 2) (v := .ref 39) rfl rfl (Or.inr ⟨_, rfl⟩) ?_
          refine zh_aload_n (pn := 408) rfl dL_law_407 (i := 0) (v := .ref 0) rfl rfl (Or.inr ⟨_, rfl⟩) ?_
          refine zh_iload_n (pn := 409) rfl dL_law_408 (i := 3) (x := l3) rfl rfl ?_
          refine zh_iconst (pn := 410) rfl dL_law_409 (v := (zI 1)) rfl ?_
          refine zh_iadd (pn := 411) rfl dL_law_410 ?_
          refine zh_sld (pn := 412) rfl dL_law_411 h.1 ?_
          replace h := h.2
          refine zh_aload_n (pn := 413) rfl dL_law_412 (i := 0) (v := .ref 0) rfl rfl (Or.inr ⟨_, rfl⟩) ?_
          refine zh_iload_n (pn := 414) rfl dL_law_413 (i := 3) (x := l3) rfl rfl ?_
          refine zh_iconst (pn := 415) rfl dL_law_414 (v := (zI 2)) rfl ?_
          refine zh_iadd (pn := 416) rfl dL_law_415 ?_
          refine zh_sld (pn := 417) rfl dL_law_416 h.1 ?_
          replace h := h.2
          refine zh_aload_n (pn := 418) rfl dL_law_417 (i := 0) (v := .ref 0) rfl rfl (Or.inr ⟨_, rfl⟩) ?_
          refine zh_iload_n (pn := 419) rfl dL_law_418 (i := 3) (x := l3) rfl rfl ?_
          refine zh_iconst (pn := 420) rfl dL_law_419 (v := (zI 3)) rfl ?_
          refine zh_iadd (pn := 421) rfl dL_law_420 ?_
          refine zh_sld (pn := 422) rfl dL_law_421 h.1 ?_
          replace h := h.2
          refine zh_aload_n (pn := 423) rfl dL_law_422 (i := 0) (v := .ref 0) rfl rfl (Or.inr ⟨_, rfl⟩) ?_
          refine zh_iload_n (pn := 424) rfl dL_law_423 (i := 3) (x := l3) rfl rfl ?_
          refine zh_iconst (pn := 425) rfl dL_law_424 (v := (zI 4)) rfl ?_
          refine zh_iadd (pn := 426) rfl dL_law_425 ?_
          refine zh_sld (pn := 427) rfl dL_law_426 h.1 ?_
          replace h := h.2
          refine ca_X5_set (pn := 430) rfl dL_law_427 mc_L_54 (fun _ _ => Nat.le_of_ble_eq_true rfl) h (fun r36 M35 h => ?_)
          refine zh_icmp_eq (pn := 433) rfl dL_law_430 (tgt := 818) rfl (fun cc1 => ?_) (fun cc1 => ?_)
          · replace h := h.1 cc1
            refine zh_iinc (pn := 821) rfl dL_law_818 (i := 3) (x := l3) (v := l3 + (zI 5)) (lo' := [some (.ref 0), some (.ref 1), some (.ref 39), some (.int (l3 + (zI 5)))]) rfl rfl (by decide) rfl ?_
            refine zh_goto dL_law_821 (tgt := 18) rfl ?_
            exact ih _ _ h
          · replace h := h.2 cc1
            refine zh_iconst (pn := 434) rfl dL_law_433 (v := (zI 0)) rfl ?_
            exact zh_iret dL_law_434 rfl rfl ⟨_, rfl, rfl, h⟩
        · replace h := h.2.2.2.2.2.2.2.2.2.1 cc2
          refine zh_tableIn dL_law_32 (by omega) (by omega) (by rw [cc2]; rfl) (tgt := 435) rfl ?_
          refine zh_aload_n (pn := 436) rfl dL_law_435 (i := 1) (v := .ref 1) rfl rfl (Or.inr ⟨_, rfl⟩) ?_
          refine zh_aload_n (pn := 437) rfl dL_law_436 (i := 0) (v := .ref 0) rfl rfl (Or.inr ⟨_, rfl⟩) ?_
          refine zh_iload_n (pn := 438) rfl dL_law_437 (i := 3) (x := l3) rfl rfl ?_
          refine zh_iconst (pn := 439) rfl dL_law_438 (v := (zI 1)) rfl ?_
          refine zh_iadd (pn := 440) rfl dL_law_439 ?_
          refine zh_sld (pn := 441) rfl dL_law_440 h.1 ?_
          replace h := h.2
          refine zh_aload_n (pn := 442) rfl dL_law_441 (i := 0) (v := .ref 0) rfl rfl (Or.inr ⟨_, rfl⟩) ?_
          refine zh_iload_n (pn := 443) rfl dL_law_442 (i := 3) (x := l3) rfl rfl ?_
          refine zh_iconst (pn := 444) rfl dL_law_443 (v := (zI 2)) rfl ?_
          refine zh_iadd (pn := 445) rfl dL_law_444 ?_
          refine zh_sld (pn := 446) rfl dL_law_445 h.1 ?_
          replace h := h.2
          refine zh_aload_n (pn := 447) rfl dL_law_446 (i := 0) (v := .ref 0) rfl rfl (Or.inr ⟨_, rfl⟩) ?_
          refine zh_iload_n (pn := 448) rfl dL_law_447 (i := 3) (x := l3) rfl rfl ?_
          refine zh_iconst (pn := 449) rfl dL_law_448 (v := (zI 3)) rfl ?_
          refine zh_iadd (pn := 450) rfl dL_law_449 ?_
          refine zh_sld (pn := 451) rfl dL_law_450 h.1 ?_
          replace h := h.2
          refine zh_aload_n (pn := 452) rfl dL_law_451 (i := 0) (v := .ref 0) rfl rfl (Or.inr ⟨_, rfl⟩) ?_
          refine zh_iload_n (pn := 453) rfl dL_law_452 (i := 3) (x := l3) rfl rfl ?_
          refine zh_iconst (pn := 454) rfl dL_law_453 (v := (zI 4)) rfl ?_
          refine zh_iadd (pn := 455) rfl dL_law_454 ?_
          refine zh_sld (pn := 456) rfl dL_law_455 h.1 ?_
          replace h := h.2
          refine ca_X4_get (pn := 459) rfl dL_law_456 mc_L_55 (fun _ _ => Nat.le_of_ble_eq_true rfl) h (fun r38 M37 h => ?_)
          refine zh_aload_n (pn := 460) rfl dL_law_459 (i := 2) (v := .ref 39) rfl rfl (Or.inr ⟨_, rfl⟩) ?_
          refine zh_aload_n (pn := 461) rfl dL_law_460 (i := 0) (v := .ref 0) rfl rfl (Or.inr ⟨_, rfl⟩) ?_
          refine zh_iload_n (pn := 462) rfl dL_law_461 (i := 3) (x := l3) rfl rfl ?_
          refine zh_iconst (pn := 463) rfl dL_law_462 (v := (zI 1)) rfl ?_
          refine zh_iadd (pn := 464) rfl dL_law_463 ?_
          refine zh_sld (pn := 465) rfl dL_law_464 h.1 ?_
          replace h := h.2
          refine zh_aload_n (pn := 466) rfl dL_law_465 (i := 0) (v := .ref 0) rfl rfl (Or.inr ⟨_, rfl⟩) ?_
          refine zh_iload_n (pn := 467) rfl dL_law_466 (i := 3) (x := l3) rfl rfl ?_
          refine zh_iconst (pn := 468) rfl dL_law_467 (v := (zI 2)) rfl ?_
          refine zh_iadd (pn := 469) rfl dL_law_468 ?_
          refine zh_sld (pn := 470) rfl dL_law_469 h.1 ?_
          replace h := h.2
          refine zh_aload_n (pn := 471) rfl dL_law_470 (i := 0) (v := .ref 0) rfl rfl (Or.inr ⟨_, rfl⟩) ?_
          refine zh_iload_n (pn := 472) rfl dL_law_471 (i := 3) (x := l3) rfl rfl ?_
          refine zh_iconst (pn := 473) rfl dL_law_472 (v := (zI 3)) rfl ?_
          refine zh_iadd (pn := 474) rfl dL_law_473 ?_
          refine zh_sld (pn := 475) rfl dL_law_474 h.1 ?_
          replace h := h.2
          refine zh_aload_n (pn := 476) rfl dL_law_475 (i := 0) (v := .ref 0) rfl rfl (Or.inr ⟨_, rfl⟩) ?_
          refine zh_iload_n (pn := 477) rfl dL_law_476 (i := 3) (x := l3) rfl rfl ?_
          refine zh_iconst (pn := 478) rfl dL_law_477 (v := (zI 4)) rfl ?_
          refine zh_iadd (pn := 479) rfl dL_law_478 ?_
          refine zh_sld (pn := 480) rfl dL_law_479 h.1 ?_
          replace h := h.2
          refine ca_X5_get (pn := 483) rfl dL_law_480 mc_L_58 (fun _ _ => Nat.le_of_ble_eq_true rfl) h (fun r40 M39 h => ?_)
          refine zh_icmp_eq (pn := 486) rfl dL_law_483 (tgt := 818) rfl (fun cc1 => ?_) (fun cc1 => ?_)
          · replace h := h.1 cc1
            refine zh_iinc (pn := 821) rfl dL_law_818 (i := 3) (x := l3) (v := l3 + (zI 5)) (lo' := [some (.ref 0), some (.ref 1), some (.ref 39), some (.int (l3 + (zI 5)))]) rfl rfl (by decide) rfl ?_
            refine zh_goto dL_law_821 (tgt := 18) rfl ?_
            exact ih _ _ h
          · replace h := h.2 cc1
            refine zh_iconst (pn := 487) rfl dL_law_486 (v := (zI 0)) rfl ?_
            exact zh_iret dL_law_487 rfl rfl ⟨_, rfl, rfl, h⟩
        · replace h := h.2.2.2.2.2.2.2.2.2.2.1 cc2
          refine zh_tableIn dL_law_32 (by omega) (by omega) (by rw [cc2]; rfl) (tgt := 488) rfl ?_
          refine zh_aload_n (pn := 489) rfl dL_law_488 (i := 1) (v := .ref 1) rfl rfl (Or.inr ⟨_, rfl⟩) ?_
          refine zh_aload_n (pn := 490) rfl dL_law_489 (i := 0) (v := .ref 0) rfl rfl (Or.inr ⟨_, rfl⟩) ?_
          refine zh_iload_n (pn := 491) rfl dL_law_490 (i := 3) (x := l3) rfl rfl ?_
          refine zh_iconst (pn := 492) rfl dL_law_491 (v := (zI 1)) rfl ?_
          refine zh_iadd (pn := 493) rfl dL_law_492 ?_
          refine zh_sld (pn := 494) rfl dL_law_493 h.1 ?_
          replace h := h.2
          refine zh_aload_n (pn := 495) rfl dL_law_494 (i := 0) (v := .ref 0) rfl rfl (Or.inr ⟨_, rfl⟩) ?_
          refine zh_iload_n (pn := 496) rfl dL_law_495 (i := 3) (x := l3) rfl rfl ?_
          refine zh_iconst (pn := 497) rfl dL_law_496 (v := (zI 2)) rfl ?_
          refine zh_iadd (pn := 498) rfl dL_law_497 ?_
          refine zh_sld (pn := 499) rfl dL_law_498 h.1 ?_
          replace h := h.2
          refine zh_aload_n (pn := 500) rfl dL_law_499 (i := 0) (v := .ref 0) rfl rfl (Or.inr ⟨_, rfl⟩) ?_
          refine zh_iload_n (pn := 501) rfl dL_law_500 (i := 3) (x := l3) rfl rfl ?_
          refine zh_iconst (pn := 502) rfl dL_law_501 (v := (zI 3)) rfl ?_
          refine zh_iadd (pn := 503) rfl dL_law_502 ?_
          refine zh_sld (pn := 504) rfl dL_law_503 h.1 ?_
          replace h := h.2
          refine zh_aload_n (pn := 505) rfl dL_law_504 (i := 0) (v := .ref 0) rfl rfl (Or.inr ⟨_, rfl⟩) ?_
          refine zh_iload_n (pn := 506) rfl dL_law_505 (i := 3) (x := l3) rfl rfl ?_
          refine zh_iconst (pn := 507) rfl dL_law_506 (v := (zI 4)) rfl ?_
          refine zh_iadd (pn := 508) rfl dL_law_507 ?_
          refine zh_sld (pn := 509) rfl dL_law_508 h.1 ?_
          replace h := h.2
          refine ca_X4_store (pn := 512) rfl dL_law_509 mc_L_59 (fun _ _ => Nat.le_of_ble_eq_true rfl) h (fun r42 M41 h => ?_)
          refine zh_aload_n (pn := 513) rfl dL_law_512 (i := 2) (v := .ref 39) rfl rfl (Or.inr ⟨_, rfl⟩) ?_
          refine zh_aload_n (pn := 514) rfl dL_law_513 (i := 0) (v := .ref 0) rfl rfl (Or.inr ⟨_, rfl⟩) ?_
          refine zh_iload_n (pn := 515) rfl dL_law_514 (i := 3) (x := l3) rfl rfl ?_
          refine zh_iconst (pn := 516) rfl dL_law_515 (v := (zI 1)) rfl ?_
          refine zh_iadd (pn := 517) rfl dL_law_516 ?_
          refine zh_sld (pn := 518) rfl dL_law_517 h.1 ?_
          replace h := h.2
          refine zh_aload_n (pn := 519) rfl dL_law_518 (i := 0) (v := .ref 0) rfl rfl (Or.inr ⟨_, rfl⟩) ?_
          refine zh_iload_n (pn := 520) rfl dL_law_519 (i := 3) (x := l3) rfl rfl ?_
          refine zh_iconst (pn := 521) rfl dL_law_520 (v := (zI 2)) rfl ?_
          refine zh_iadd (pn := 522) rfl dL_law_521 ?_
          refine zh_sld (pn := 523) rfl dL_law_522 h.1 ?_
          replace h := h.2
          refine zh_aload_n (pn := 524) rfl dL_law_523 (i := 0) (v := .ref 0) rfl rfl (Or.inr ⟨_, rfl⟩) ?_
          refine zh_iload_n (pn := 525) rfl dL_law_524 (i := 3) (x := l3) rfl rfl ?_
          refine zh_iconst (pn := 526) rfl dL_law_525 (v := (zI 3)) rfl ?_
          refine zh_iadd (pn := 527) rfl dL_law_526 ?_
          refine zh_sld (pn := 528) rfl dL_law_527 h.1 ?_
          replace h := h.2
          refine zh_aload_n (pn := 529) rfl dL_law_528 (i := 0) (v := .ref 0) rfl rfl (Or.inr ⟨_, rfl⟩) ?_
          refine zh_iload_n (pn := 530) rfl dL_law_529 (i := 3) (x := l3) rfl rfl ?_
          refine zh_iconst (pn := 531) rfl dL_law_530 (v := (zI 4)) rfl ?_
          refine zh_iadd (pn := 532) rfl dL_law_531 ?_
          refine zh_sld (pn := 533) rfl dL_law_532 h.1 ?_
          replace h := h.2
          refine ca_X5_store (pn := 536) rfl dL_law_533 mc_L_62 (fun _ _ => Nat.le_of_ble_eq_true rfl) h (fun r44 M43 h => ?_)
          refine zh_icmp_eq (pn := 539) rfl dL_law_536 (tgt := 818) rfl (fun cc1 => ?_) (fun cc1 => ?_)
          · replace h := h.1 cc1
            refine zh_iinc (pn := 821) rfl dL_law_818 (i := 3) (x := l3) (v := l3 + (zI 5)) (lo' := [some (.ref 0), some (.ref 1), some (.ref 39), some (.int (l3 + (zI 5)))]) rfl rfl (by decide) rfl ?_
            refine zh_goto dL_law_821 (tgt := 18) rfl ?_
            exact ih _ _ h
          · replace h := h.2 cc1
            refine zh_iconst (pn := 540) rfl dL_law_539 (v := (zI 0)) rfl ?_
            exact zh_iret dL_law_540 rfl rfl ⟨_, rfl, rfl, h⟩
        · replace h := h.2.2.2.2.2.2.2.2.2.2.2.1 cc2
          refine zh_tableIn dL_law_32 (by omega) (by omega) (by rw [cc2]; rfl) (tgt := 541) rfl ?_
          refine zh_aload_n (pn := 542) rfl dL_law_541 (i := 1) (v := .ref 1) rfl rfl (Or.inr ⟨_, rfl⟩) ?_
          refine zh_aload_n (pn := 543) rfl dL_law_542 (i := 0) (v := .ref 0) rfl rfl (Or.inr ⟨_, rfl⟩) ?_
          refine zh_iload_n (pn := 544) rfl dL_law_543 (i := 3) (x := l3) rfl rfl ?_
          refine zh_iconst (pn := 545) rfl dL_law_544 (v := (zI 1)) rfl ?_
          refine zh_iadd (pn := 546) rfl dL_law_545 ?_
          refine zh_sld (pn := 547) rfl dL_law_546 h.1 ?_
          replace h := h.2
          refine zh_aload_n (pn := 548) rfl dL_law_547 (i := 0) (v := .ref 0) rfl rfl (Or.inr ⟨_, rfl⟩) ?_
          refine zh_iload_n (pn := 549) rfl dL_law_548 (i := 3) (x := l3) rfl rfl ?_
          refine zh_iconst (pn := 550) rfl dL_law_549 (v := (zI 2)) rfl ?_
          refine zh_iadd (pn := 551) rfl dL_law_550 ?_
          refine zh_sld (pn := 552) rfl dL_law_551 h.1 ?_
          replace h := h.2
          refine zh_aload_n (pn := 553) rfl dL_law_552 (i := 0) (v := .ref 0) rfl rfl (Or.inr ⟨_, rfl⟩) ?_
          refine zh_iload_n (pn := 554) rfl dL_law_553 (i := 3) (x := l3) rfl rfl ?_
          refine zh_iconst (pn := 555) rfl dL_law_554 (v := (zI 3)) rfl ?_
          refine zh_iadd (pn := 556) rfl dL_law_555 ?_
          refine zh_sld (pn := 557) rfl dL_law_556 h.1 ?_
          replace h := h.2
          refine ca_X4_load (pn := 560) rfl dL_law_557 mc_L_63 (fun _ _ => Nat.le_of_ble_eq_true rfl) h (fun r46 M45 h => ?_)
          refine zh_aload_n (pn := 561) rfl dL_law_560 (i := 2) (v := .ref 39) rfl rfl (Or.inr ⟨_, rfl⟩) ?_
          refine zh_aload_n (pn := 562) rfl dL_law_561 (i := 0) (v := .ref 0) rfl rfl (Or.inr ⟨_, rfl⟩) ?_
          refine zh_iload_n (pn := 563) rfl dL_law_562 (i := 3) (x := l3) rfl rfl ?_
          refine zh_iconst (pn := 564) rfl dL_law_563 (v := (zI 1)) rfl ?_
          refine zh_iadd (pn := 565) rfl dL_law_564 ?_
          refine zh_sld (pn := 566) rfl dL_law_565 h.1 ?_
          replace h := h.2
          refine zh_aload_n (pn := 567) rfl dL_law_566 (i := 0) (v := .ref 0) rfl rfl (Or.inr ⟨_, rfl⟩) ?_
          refine zh_iload_n (pn := 568) rfl dL_law_567 (i := 3) (x := l3) rfl rfl ?_
          refine zh_iconst (pn := 569) rfl dL_law_568 (v := (zI 2)) rfl ?_
          refine zh_iadd (pn := 570) rfl dL_law_569 ?_
          refine zh_sld (pn := 571) rfl dL_law_570 h.1 ?_
          replace h := h.2
          refine zh_aload_n (pn := 572) rfl dL_law_571 (i := 0) (v := .ref 0) rfl rfl (Or.inr ⟨_, rfl⟩) ?_
          refine zh_iload_n (pn := 573) rfl dL_law_572 (i := 3) (x := l3) rfl rfl ?_
          refine zh_iconst (pn := 574) rfl dL_law_573 (v := (zI 3)) rfl ?_
          refine zh_iadd (pn := 575) rfl dL_law_574 ?_
          refine zh_sld (pn := 576) rfl dL_law_575 h.1 ?_
          replace h := h.2
          refine ca_X5_load (pn := 579) rfl dL_law_576 mc_L_67 (fun _ _ => Nat.le_of_ble_eq_true rfl) h (fun r48 M47 h => ?_)
          refine zh_icmp_eq (pn := 582) rfl dL_law_579 (tgt := 818) rfl (fun cc1 => ?_) (fun cc1 => ?_)
          · replace h := h.1 cc1
            refine zh_iinc (pn := 821) rfl dL_law_818 (i := 3) (x := l3) (v := l3 + (zI 5)) (lo' := [some (.ref 0), some (.ref 1), some (.ref 39), some (.int (l3 + (zI 5)))]) rfl rfl (by decide) rfl ?_
            refine zh_goto dL_law_821 (tgt := 18) rfl ?_
            exact ih _ _ h
          · replace h := h.2 cc1
            refine zh_iconst (pn := 583) rfl dL_law_582 (v := (zI 0)) rfl ?_
            exact zh_iret dL_law_583 rfl rfl ⟨_, rfl, rfl, h⟩
        · replace h := h.2.2.2.2.2.2.2.2.2.2.2.2.1 cc2
          refine zh_tableIn dL_law_32 (by omega) (by omega) (by rw [cc2]; rfl) (tgt := 584) rfl ?_
          refine zh_aload_n (pn := 585) rfl dL_law_584 (i := 1) (v := .ref 1) rfl rfl (Or.inr ⟨_, rfl⟩) ?_
          refine zh_aload_n (pn := 586) rfl dL_law_585 (i := 0) (v := .ref 0) rfl rfl (Or.inr ⟨_, rfl⟩) ?_
          refine zh_iload_n (pn := 587) rfl dL_law_586 (i := 3) (x := l3) rfl rfl ?_
          refine zh_iconst (pn := 588) rfl dL_law_587 (v := (zI 1)) rfl ?_
          refine zh_iadd (pn := 589) rfl dL_law_588 ?_
          refine zh_sld (pn := 590) rfl dL_law_589 h.1 ?_
          replace h := h.2
          refine zh_aload_n (pn := 591) rfl dL_law_590 (i := 0) (v := .ref 0) rfl rfl (Or.inr ⟨_, rfl⟩) ?_
          refine zh_iload_n (pn := 592) rfl dL_law_591 (i := 3) (x := l3) rfl rfl ?_
          refine zh_iconst (pn := 593) rfl dL_law_592 (v := (zI 2)) rfl ?_
          refine zh_iadd (pn := 594) rfl dL_law_593 ?_
          refine zh_sld (pn := 595) rfl dL_law_594 h.1 ?_
          replace h := h.2
          refine zh_aload_n (pn := 596) rfl dL_law_595 (i := 0) (v := .ref 0) rfl rfl (Or.inr ⟨_, rfl⟩) ?_
          refine zh_iload_n (pn := 597) rfl dL_law_596 (i := 3) (x := l3) rfl rfl ?_
          refine zh_iconst (pn := 598) rfl dL_law_597 (v := (zI 3)) rfl ?_
          refine zh_iadd (pn := 599) rfl dL_law_598 ?_
          refine zh_sld (pn := 600) rfl dL_law_599 h.1 ?_
          replace h := h.2
          refine ca_X4_send (pn := 603) rfl dL_law_600 mc_L_68 (fun _ _ => Nat.le_of_ble_eq_true rfl) h (fun r50 M49 h => ?_)
          refine zh_aload_n (pn := 604) rfl dL_law_603 (i := 2) (v := .ref 39) rfl rfl (Or.inr ⟨_, rfl⟩) ?_
          refine zh_aload_n (pn := 605) rfl dL_law_604 (i := 0) (v := .ref 0) rfl rfl (Or.inr ⟨_, rfl⟩) ?_
          refine zh_iload_n (pn := 606) rfl dL_law_605 (i := 3) (x := l3) rfl rfl ?_
          refine zh_iconst (pn := 607) rfl dL_law_606 (v := (zI 1)) rfl ?_
          refine zh_iadd (pn := 608) rfl dL_law_607 ?_
          refine zh_sld (pn := 609) rfl dL_law_608 h.1 ?_
          replace h := h.2
          refine zh_aload_n (pn := 610) rfl dL_law_609 (i := 0) (v := .ref 0) rfl rfl (Or.inr ⟨_, rfl⟩) ?_
          refine zh_iload_n (pn := 611) rfl dL_law_610 (i := 3) (x := l3) rfl rfl ?_
          refine zh_iconst (pn := 612) rfl dL_law_611 (v := (zI 2)) rfl ?_
          refine zh_iadd (pn := 613) rfl dL_law_612 ?_
          refine zh_sld (pn := 614) rfl dL_law_613 h.1 ?_
          replace h := h.2
          refine zh_aload_n (pn := 615) rfl dL_law_614 (i := 0) (v := .ref 0) rfl rfl (Or.inr ⟨_, rfl⟩) ?_
          refine zh_iload_n (pn := 616) rfl dL_law_615 (i := 3) (x := l3) rfl rfl ?_
          refine zh_iconst (pn := 617) rfl dL_law_616 (v := (zI 3)) rfl ?_
          refine zh_iadd (pn := 618) rfl dL_law_617 ?_
          refine zh_sld (pn := 619) rfl dL_law_618 h.1 ?_
          replace h := h.2
          refine ca_X5_send (pn := 622) rfl dL_law_619 mc_L_71 (fun _ _ => Nat.le_of_ble_eq_true rfl) h (fun r52 M51 h => ?_)
          refine zh_icmp_eq (pn := 625) rfl dL_law_622 (tgt := 818) rfl (fun cc1 => ?_) (fun cc1 => ?_)
          · replace h := h.1 cc1
            refine zh_iinc (pn := 821) rfl dL_law_818 (i := 3) (x := l3) (v := l3 + (zI 5)) (lo' := [some (.ref 0), some (.ref 1), some (.ref 39), some (.int (l3 + (zI 5)))]) rfl rfl (by decide) rfl ?_
            refine zh_goto dL_law_821 (tgt := 18) rfl ?_
            exact ih _ _ h
          · replace h := h.2 cc1
            refine zh_iconst (pn := 626) rfl dL_law_625 (v := (zI 0)) rfl ?_
            exact zh_iret dL_law_626 rfl rfl ⟨_, rfl, rfl, h⟩
        · replace h := h.2.2.2.2.2.2.2.2.2.2.2.2.2.1 cc2
          refine zh_tableIn dL_law_32 (by omega) (by omega) (by rw [cc2]; rfl) (tgt := 627) rfl ?_
          refine zh_aload_n (pn := 628) rfl dL_law_627 (i := 1) (v := .ref 1) rfl rfl (Or.inr ⟨_, rfl⟩) ?_
          refine zh_aload_n (pn := 629) rfl dL_law_628 (i := 0) (v := .ref 0) rfl rfl (Or.inr ⟨_, rfl⟩) ?_
          refine zh_iload_n (pn := 630) rfl dL_law_629 (i := 3) (x := l3) rfl rfl ?_
          refine zh_iconst (pn := 631) rfl dL_law_630 (v := (zI 1)) rfl ?_
          refine zh_iadd (pn := 632) rfl dL_law_631 ?_
          refine zh_sld (pn := 633) rfl dL_law_632 h.1 ?_
          replace h := h.2
          refine zh_aload_n (pn := 634) rfl dL_law_633 (i := 0) (v := .ref 0) rfl rfl (Or.inr ⟨_, rfl⟩) ?_
          refine zh_iload_n (pn := 635) rfl dL_law_634 (i := 3) (x := l3) rfl rfl ?_
          refine zh_iconst (pn := 636) rfl dL_law_635 (v := (zI 2)) rfl ?_
          refine zh_iadd (pn := 637) rfl dL_law_636 ?_
          refine zh_sld (pn := 638) rfl dL_law_637 h.1 ?_
          replace h := h.2
          refine zh_aload_n (pn := 639) rfl dL_law_638 (i := 0) (v := .ref 0) rfl rfl (Or.inr ⟨_, rfl⟩) ?_
          refine zh_iload_n (pn := 640) rfl dL_law_639 (i := 3) (x := l3) rfl rfl ?_
          refine zh_iconst (pn := 641) rfl dL_law_640 (v := (zI 3)) rfl ?_
          refine zh_iadd (pn := 642) rfl dL_law_641 ?_
          refine zh_sld (pn := 643) rfl dL_law_642 h.1 ?_
          replace h := h.2
          refine zh_aload_n (pn := 644) rfl dL_law_643 (i := 0) (v := .ref 0) rfl rfl (Or.inr ⟨_, rfl⟩) ?_
          refine zh_iload_n (pn := 645) rfl dL_law_644 (i := 3) (x := l3) rfl rfl ?_
          refine zh_iconst (pn := 646) rfl dL_law_645 (v := (zI 4)) rfl ?_
          refine zh_iadd (pn := 647) rfl dL_law_646 ?_
          refine zh_sld (pn := 648) rfl dL_law_647 h.1 ?_
          replace h := h.2
          refine ca_X4_take (pn := 651) rfl dL_law_648 mc_L_72 (fun _ _ => Nat.le_of_ble_eq_true rfl) h (fun r54 M53 h => ?_)
          refine zh_aload_n (pn := 652) rfl dL_law_651 (i := 2) (v := .ref 39) rfl rfl (Or.inr ⟨_, rfl⟩) ?_
          refine zh_aload_n (pn := 653) rfl dL_law_652 (i := 0) (v := .ref 0) rfl rfl (Or.inr ⟨_, rfl⟩) ?_
          refine zh_iload_n (pn := 654) rfl dL_law_653 (i := 3) (x := l3) rfl rfl ?_
          refine zh_iconst (pn := 655) rfl dL_law_654 (v := (zI 1)) rfl ?_
          refine zh_iadd (pn := 656) rfl dL_law_655 ?_
          refine zh_sld (pn := 657) rfl dL_law_656 h.1 ?_
          replace h := h.2
          refine zh_aload_n (pn := 658) rfl dL_law_657 (i := 0) (v := .ref 0) rfl rfl (Or.inr ⟨_, rfl⟩) ?_
          refine zh_iload_n (pn := 659) rfl dL_law_658 (i := 3) (x := l3) rfl rfl ?_
          refine zh_iconst (pn := 660) rfl dL_law_659 (v := (zI 2)) rfl ?_
          refine zh_iadd (pn := 661) rfl dL_law_660 ?_
          refine zh_sld (pn := 662) rfl dL_law_661 h.1 ?_
          replace h := h.2
          refine zh_aload_n (pn := 663) rfl dL_law_662 (i := 0) (v := .ref 0) rfl rfl (Or.inr ⟨_, rfl⟩) ?_
          refine zh_iload_n (pn := 664) rfl dL_law_663 (i := 3) (x := l3) rfl rfl ?_
          refine zh_iconst (pn := 665) rfl dL_law_664 (v := (zI 3)) rfl ?_
          refine zh_iadd (pn := 666) rfl dL_law_665 ?_
          refine zh_sld (pn := 667) rfl dL_law_666 h.1 ?_
          replace h := h.2
          refine zh_aload_n (pn := 668) rfl dL_law_667 (i := 0) (v := .ref 0) rfl rfl (Or.inr ⟨_, rfl⟩) ?_
          refine zh_iload_n (pn := 669) rfl dL_law_668 (i := 3) (x := l3) rfl rfl ?_
          refine zh_iconst (pn := 670) rfl dL_law_669 (v := (zI 4)) rfl ?_
          refine zh_iadd (pn := 671) rfl dL_law_670 ?_
          refine zh_sld (pn := 672) rfl dL_law_671 h.1 ?_
          replace h := h.2
          refine ca_X5_take (pn := 675) rfl dL_law_672 mc_L_75 (fun _ _ => Nat.le_of_ble_eq_true rfl) h (fun r56 M55 h => ?_)
          refine zh_icmp_eq (pn := 678) rfl dL_law_675 (tgt := 818) rfl (fun cc1 => ?_) (fun cc1 => ?_)
          · replace h := h.1 cc1
            refine zh_iinc (pn := 821) rfl dL_law_818 (i := 3) (x := l3) (v := l3 + (zI 5)) (lo' := [some (.ref 0), some (.ref 1), some (.ref 39), some (.int (l3 + (zI 5)))]) rfl rfl (by decide) rfl ?_
            refine zh_goto dL_law_821 (tgt := 18) rfl ?_
            exact ih _ _ h
          · replace h := h.2 cc1
            refine zh_iconst (pn := 679) rfl dL_law_678 (v := (zI 0)) rfl ?_
            exact zh_iret dL_law_679 rfl rfl ⟨_, rfl, rfl, h⟩
        · replace h := h.2.2.2.2.2.2.2.2.2.2.2.2.2.2.1 cc2
          refine zh_tableIn dL_law_32 (by omega) (by omega) (by rw [cc2]; rfl) (tgt := 680) rfl ?_
          refine zh_aload_n (pn := 681) rfl dL_law_680 (i := 1) (v := .ref 1) rfl rfl (Or.inr ⟨_, rfl⟩) ?_
          refine zh_aload_n (pn := 682) rfl dL_law_681 (i := 0) (v := .ref 0) rfl rfl (Or.inr ⟨_, rfl⟩) ?_
          refine zh_iload_n (pn := 683) rfl dL_law_682 (i := 3) (x := l3) rfl rfl ?_
          refine zh_iconst (pn := 684) rfl dL_law_683 (v := (zI 1)) rfl ?_
          refine zh_iadd (pn := 685) rfl dL_law_684 ?_
          refine zh_sld (pn := 686) rfl dL_law_685 h.1 ?_
          replace h := h.2
          refine ca_X4_mark (pn := 689) rfl dL_law_686 mc_L_76 (fun _ _ => Nat.le_of_ble_eq_true rfl) h (fun r58 M57 h => ?_)
          refine zh_aload_n (pn := 690) rfl dL_law_689 (i := 2) (v := .ref 39) rfl rfl (Or.inr ⟨_, rfl⟩) ?_
          refine zh_aload_n (pn := 691) rfl dL_law_690 (i := 0) (v := .ref 0) rfl rfl (Or.inr ⟨_, rfl⟩) ?_
          refine zh_iload_n (pn := 692) rfl dL_law_691 (i := 3) (x := l3) rfl rfl ?_
          refine zh_iconst (pn := 693) rfl dL_law_692 (v := (zI 1)) rfl ?_
          refine zh_iadd (pn := 694) rfl dL_law_693 ?_
          refine zh_sld (pn := 695) rfl dL_law_694 h.1 ?_
          replace h := h.2
          refine ca_X5_mark (pn := 698) rfl dL_law_695 mc_L_80 (fun _ _ => Nat.le_of_ble_eq_true rfl) h (fun r60 M59 h => ?_)
          refine zh_icmp_eq (pn := 701) rfl dL_law_698 (tgt := 818) rfl (fun cc1 => ?_) (fun cc1 => ?_)
          · replace h := h.1 cc1
            refine zh_iinc (pn := 821) rfl dL_law_818 (i := 3) (x := l3) (v := l3 + (zI 5)) (lo' := [some (.ref 0), some (.ref 1), some (.ref 39), some (.int (l3 + (zI 5)))]) rfl rfl (by decide) rfl ?_
            refine zh_goto dL_law_821 (tgt := 18) rfl ?_
            exact ih _ _ h
          · replace h := h.2 cc1
            refine zh_iconst (pn := 702) rfl dL_law_701 (v := (zI 0)) rfl ?_
            exact zh_iret dL_law_702 rfl rfl ⟨_, rfl, rfl, h⟩
        · replace h := h.2.2.2.2.2.2.2.2.2.2.2.2.2.2.2.1 cc2
          refine zh_tableIn dL_law_32 (by omega) (by omega) (by rw [cc2]; rfl) (tgt := 703) rfl ?_
          refine zh_aload_n (pn := 704) rfl dL_law_703 (i := 1) (v := .ref 1) rfl rfl (Or.inr ⟨_, rfl⟩) ?_
          refine zh_aload_n (pn := 705) rfl dL_law_704 (i := 0) (v := .ref 0) rfl rfl (Or.inr ⟨_, rfl⟩) ?_
          refine zh_iload_n (pn := 706) rfl dL_law_705 (i := 3) (x := l3) rfl rfl ?_
          refine zh_iconst (pn := 707) rfl dL_law_706 (v := (zI 1)) rfl ?_
          refine zh_iadd (pn := 708) rfl dL_law_707 ?_
          refine zh_sld (pn := 709) rfl dL_law_708 h.1 ?_
          replace h := h.2
          refine ca_X4_sweep (pn := 712) rfl dL_law_709 mc_L_81 (fun _ _ => Nat.le_of_ble_eq_true rfl) h (fun r62 M61 h => ?_)
          refine zh_aload_n (pn := 713) rfl dL_law_712 (i := 2) (v := .ref 39) rfl rfl (Or.inr ⟨_, rfl⟩) ?_
          refine zh_aload_n (pn := 714) rfl dL_law_713 (i := 0) (v := .ref 0) rfl rfl (Or.inr ⟨_, rfl⟩) ?_
          refine zh_iload_n (pn := 715) rfl dL_law_714 (i := 3) (x := l3) rfl rfl ?_
          refine zh_iconst (pn := 716) rfl dL_law_715 (v := (zI 1)) rfl ?_
          refine zh_iadd (pn := 717) rfl dL_law_716 ?_
          refine zh_sld (pn := 718) rfl dL_law_717 h.1 ?_
          replace h := h.2
          refine ca_X5_sweep (pn := 721) rfl dL_law_718 mc_L_84 (fun _ _ => Nat.le_of_ble_eq_true rfl) h (fun r64 M63 h => ?_)
          refine zh_icmp_eq (pn := 724) rfl dL_law_721 (tgt := 818) rfl (fun cc1 => ?_) (fun cc1 => ?_)
          · replace h := h.1 cc1
            refine zh_iinc (pn := 821) rfl dL_law_818 (i := 3) (x := l3) (v := l3 + (zI 5)) (lo' := [some (.ref 0), some (.ref 1), some (.ref 39), some (.int (l3 + (zI 5)))]) rfl rfl (by decide) rfl ?_
            refine zh_goto dL_law_821 (tgt := 18) rfl ?_
            exact ih _ _ h
          · replace h := h.2 cc1
            refine zh_iconst (pn := 725) rfl dL_law_724 (v := (zI 0)) rfl ?_
            exact zh_iret dL_law_725 rfl rfl ⟨_, rfl, rfl, h⟩
        · replace h := h.2.2.2.2.2.2.2.2.2.2.2.2.2.2.2.2.1 cc2
          refine zh_tableIn dL_law_32 (by omega) (by omega) (by rw [cc2]; rfl) (tgt := 726) rfl ?_
          refine zh_aload_n (pn := 727) rfl dL_law_726 (i := 1) (v := .ref 1) rfl rfl (Or.inr ⟨_, rfl⟩) ?_
          refine ca_X4_collect (pn := 730) rfl dL_law_727 mc_L_85 (fun _ _ => Nat.le_of_ble_eq_true rfl) h (fun r66 M65 h => ?_)
          refine zh_aload_n (pn := 731) rfl dL_law_730 (i := 2) (v := .ref 39) rfl rfl (Or.inr ⟨_, rfl⟩) ?_
          refine ca_X5_collect (pn := 734) rfl dL_law_731 mc_L_89 (fun _ _ => Nat.le_of_ble_eq_true rfl) h (fun r68 M67 h => ?_)
          refine zh_icmp_eq (pn := 737) rfl dL_law_734 (tgt := 818) rfl (fun cc1 => ?_) (fun cc1 => ?_)
          · replace h := h.1 cc1
            refine zh_iinc (pn := 821) rfl dL_law_818 (i := 3) (x := l3) (v := l3 + (zI 5)) (lo' := [some (.ref 0), some (.ref 1), some (.ref 39), some (.int (l3 + (zI 5)))]) rfl rfl (by decide) rfl ?_
            refine zh_goto dL_law_821 (tgt := 18) rfl ?_
            exact ih _ _ h
          · replace h := h.2 cc1
            refine zh_iconst (pn := 738) rfl dL_law_737 (v := (zI 0)) rfl ?_
            exact zh_iret dL_law_738 rfl rfl ⟨_, rfl, rfl, h⟩
        · replace h := h.2.2.2.2.2.2.2.2.2.2.2.2.2.2.2.2.2.1 cc2
          refine zh_tableIn dL_law_32 (by omega) (by omega) (by rw [cc2]; rfl) (tgt := 739) rfl ?_
          refine zh_aload_n (pn := 740) rfl dL_law_739 (i := 1) (v := .ref 1) rfl rfl (Or.inr ⟨_, rfl⟩) ?_
          refine zh_aload_n (pn := 741) rfl dL_law_740 (i := 0) (v := .ref 0) rfl rfl (Or.inr ⟨_, rfl⟩) ?_
          refine zh_iload_n (pn := 742) rfl dL_law_741 (i := 3) (x := l3) rfl rfl ?_
          refine zh_iconst (pn := 743) rfl dL_law_742 (v := (zI 1)) rfl ?_
          refine zh_iadd (pn := 744) rfl dL_law_743 ?_
          refine zh_sld (pn := 745) rfl dL_law_744 h.1 ?_
          replace h := h.2
          refine zh_aload_n (pn := 746) rfl dL_law_745 (i := 0) (v := .ref 0) rfl rfl (Or.inr ⟨_, rfl⟩) ?_
          refine zh_iload_n (pn := 747) rfl dL_law_746 (i := 3) (x := l3) rfl rfl ?_
          refine zh_iconst (pn := 748) rfl dL_law_747 (v := (zI 2)) rfl ?_
          refine zh_iadd (pn := 749) rfl dL_law_748 ?_
          refine zh_sld (pn := 750) rfl dL_law_749 h.1 ?_
          replace h := h.2
          refine ca_X4_fiber (pn := 753) rfl dL_law_750 mc_L_90 (fun _ _ => Nat.le_of_ble_eq_true rfl) h (fun r70 M69 h => ?_)
          refine zh_aload_n (pn := 754) rfl dL_law_753 (i := 2) (v := .ref 39) rfl rfl (Or.inr ⟨_, rfl⟩) ?_
          refine zh_aload_n (pn := 755) rfl dL_law_754 (i := 0) (v := .ref 0) rfl rfl (Or.inr ⟨_, rfl⟩) ?_
          refine zh_iload_n (pn := 756) rfl dL_law_755 (i := 3) (x := l3) rfl rfl ?_
          refine zh_iconst (pn := 757) rfl dL_law_756 (v := (zI 1)) rfl ?_
          refine zh_iadd (pn := 758) rfl dL_law_757 ?_
          refine zh_sld (pn := 759) rfl dL_law_758 h.1 ?_
          replace h := h.2
          refine zh_aload_n (pn := 760) rfl dL_law_759 (i := 0) (v := .ref 0) rfl rfl (Or.inr ⟨_, rfl⟩) ?_
          refine zh_iload_n (pn := 761) rfl dL_law_760 (i := 3) (x := l3) rfl rfl ?_
          refine zh_iconst (pn := 762) rfl dL_law_761 (v := (zI 2)) rfl ?_
          refine zh_iadd (pn := 763) rfl dL_law_762 ?_
          refine zh_sld (pn := 764) rfl dL_law_763 h.1 ?_
          replace h := h.2
          refine ca_X5_fiber (pn := 767) rfl dL_law_764 mc_L_93 (fun _ _ => Nat.le_of_ble_eq_true rfl) h (fun r72 M71 h => ?_)
          refine zh_icmp_eq (pn := 770) rfl dL_law_767 (tgt := 818) rfl (fun cc1 => ?_) (fun cc1 => ?_)
          · replace h := h.1 cc1
            refine zh_iinc (pn := 821) rfl dL_law_818 (i := 3) (x := l3) (v := l3 + (zI 5)) (lo' := [some (.ref 0), some (.ref 1), some (.ref 39), some (.int (l3 + (zI 5)))]) rfl rfl (by decide) rfl ?_
            refine zh_goto dL_law_821 (tgt := 18) rfl ?_
            exact ih _ _ h
          · replace h := h.2 cc1
            refine zh_iconst (pn := 771) rfl dL_law_770 (v := (zI 0)) rfl ?_
            exact zh_iret dL_law_771 rfl rfl ⟨_, rfl, rfl, h⟩
        · replace h := h.2.2.2.2.2.2.2.2.2.2.2.2.2.2.2.2.2.2.1 cc2
          refine zh_tableIn dL_law_32 (by omega) (by omega) (by rw [cc2]; rfl) (tgt := 772) rfl ?_
          refine zh_aload_n (pn := 773) rfl dL_law_772 (i := 1) (v := .ref 1) rfl rfl (Or.inr ⟨_, rfl⟩) ?_
          refine zh_aload_n (pn := 774) rfl dL_law_773 (i := 0) (v := .ref 0) rfl rfl (Or.inr ⟨_, rfl⟩) ?_
          refine zh_iload_n (pn := 775) rfl dL_law_774 (i := 3) (x := l3) rfl rfl ?_
          refine zh_iconst (pn := 776) rfl dL_law_775 (v := (zI 1)) rfl ?_
          refine zh_iadd (pn := 777) rfl dL_law_776 ?_
          refine zh_sld (pn := 778) rfl dL_law_777 h.1 ?_
          replace h := h.2
          refine ca_X4_count (pn := 781) rfl dL_law_778 mc_L_94 (fun _ _ => Nat.le_of_ble_eq_true rfl) h (fun r74 M73 h => ?_)
          refine zh_aload_n (pn := 782) rfl dL_law_781 (i := 2) (v := .ref 39) rfl rfl (Or.inr ⟨_, rfl⟩) ?_
          refine zh_aload_n (pn := 783) rfl dL_law_782 (i := 0) (v := .ref 0) rfl rfl (Or.inr ⟨_, rfl⟩) ?_
          refine zh_iload_n (pn := 784) rfl dL_law_783 (i := 3) (x := l3) rfl rfl ?_
          refine zh_iconst (pn := 785) rfl dL_law_784 (v := (zI 1)) rfl ?_
          refine zh_iadd (pn := 786) rfl dL_law_785 ?_
          refine zh_sld (pn := 787) rfl dL_law_786 h.1 ?_
          replace h := h.2
          refine ca_X5_count (pn := 790) rfl dL_law_787 mc_L_97 (fun _ _ => Nat.le_of_ble_eq_true rfl) h (fun r76 M75 h => ?_)
          refine zh_icmp_eq (pn := 793) rfl dL_law_790 (tgt := 818) rfl (fun cc1 => ?_) (fun cc1 => ?_)
          · replace h := h.1 cc1
            refine zh_iinc (pn := 821) rfl dL_law_818 (i := 3) (x := l3) (v := l3 + (zI 5)) (lo' := [some (.ref 0), some (.ref 1), some (.ref 39), some (.int (l3 + (zI 5)))]) rfl rfl (by decide) rfl ?_
            refine zh_goto dL_law_821 (tgt := 18) rfl ?_
            exact ih _ _ h
          · replace h := h.2 cc1
            refine zh_iconst (pn := 794) rfl dL_law_793 (v := (zI 0)) rfl ?_
            exact zh_iret dL_law_794 rfl rfl ⟨_, rfl, rfl, h⟩
        · replace h := h.2.2.2.2.2.2.2.2.2.2.2.2.2.2.2.2.2.2.2 cc2
          refine zh_tableIn dL_law_32 (by omega) (by omega) (by rw [cc2]; rfl) (tgt := 795) rfl ?_
          refine zh_aload_n (pn := 796) rfl dL_law_795 (i := 1) (v := .ref 1) rfl rfl (Or.inr ⟨_, rfl⟩) ?_
          refine zh_aload_n (pn := 797) rfl dL_law_796 (i := 0) (v := .ref 0) rfl rfl (Or.inr ⟨_, rfl⟩) ?_
          refine zh_iload_n (pn := 798) rfl dL_law_797 (i := 3) (x := l3) rfl rfl ?_
          refine zh_iconst (pn := 799) rfl dL_law_798 (v := (zI 1)) rfl ?_
          refine zh_iadd (pn := 800) rfl dL_law_799 ?_
          refine zh_sld (pn := 801) rfl dL_law_800 h.1 ?_
          replace h := h.2
          refine ca_X4_page (pn := 804) rfl dL_law_801 mc_L_98 (fun _ _ => Nat.le_of_ble_eq_true rfl) h (fun r78 M77 h => ?_)
          refine zh_aload_n (pn := 805) rfl dL_law_804 (i := 2) (v := .ref 39) rfl rfl (Or.inr ⟨_, rfl⟩) ?_
          refine zh_aload_n (pn := 806) rfl dL_law_805 (i := 0) (v := .ref 0) rfl rfl (Or.inr ⟨_, rfl⟩) ?_
          refine zh_iload_n (pn := 807) rfl dL_law_806 (i := 3) (x := l3) rfl rfl ?_
          refine zh_iconst (pn := 808) rfl dL_law_807 (v := (zI 1)) rfl ?_
          refine zh_iadd (pn := 809) rfl dL_law_808 ?_
          refine zh_sld (pn := 810) rfl dL_law_809 h.1 ?_
          replace h := h.2
          refine ca_X5_page (pn := 813) rfl dL_law_810 mc_L_101 (fun _ _ => Nat.le_of_ble_eq_true rfl) h (fun r80 M79 h => ?_)
          refine zh_icmp_eq (pn := 816) rfl dL_law_813 (tgt := 818) rfl (fun cc1 => ?_) (fun cc1 => ?_)
          · replace h := h.1 cc1
            refine zh_iinc (pn := 821) rfl dL_law_818 (i := 3) (x := l3) (v := l3 + (zI 5)) (lo' := [some (.ref 0), some (.ref 1), some (.ref 39), some (.int (l3 + (zI 5)))]) rfl rfl (by decide) rfl ?_
            refine zh_goto dL_law_821 (tgt := 18) rfl ?_
            exact ih _ _ h
          · replace h := h.2 cc1
            refine zh_iconst (pn := 817) rfl dL_law_816 (v := (zI 0)) rfl ?_
            exact zh_iret dL_law_817 rfl rfl ⟨_, rfl, rfl, h⟩

def scE (Ls : Nat) (xs : Nat → Int32) : State → BB → Prop := fun s B => va_X B.2.1 Ls xs s s.heap ∧ B.2.1 < s.heap.size ∧ ¬ B.1 ≤ B.2.1
abbrev M_law (Ls : Nat) (xs : Nat → Int32) : MD := (yL_law, cL_law, 4, some .boolean, scE Ls xs)
def scA (Ls : Nat) (xs : Nat → Int32) (i : Int32) : Option Int32 := if i < 0 ∨ Ls ≤ i.toNatClampNeg then none else some (xs i.toNatClampNeg)
theorem wp_scrLen {S : SH} {Ls : Nat} {xs : Nat → Int32} {d cb sb : Nat} {Q : Option Value → AH → Prop} {pc : Nat} {L st : List Value} {h : AH} {z : UInt64} (hd : decode cL_law pc = .ok (.arraylength, 1)) (kn : WP S (M_law Ls xs) d cb sb Q (pc + 1) L (.int (nI Ls) :: st) h) : WP S (M_law Ls xs) d cb sb Q pc L (.double z :: st) h := by
  intro p l e R s m args below meth c G B mc ms C ls H locs cells slots hl hw hS hn
  obtain ⟨Cx, Cb, Cr, Cl, Ct, Co, Ck, Cn, Cf, Cm, CK, Cs, CB, CE⟩ := C
  have C : CX (M_law Ls xs) d p R s m args meth c G B mc ms := ⟨Cx, Cb, Cr, Cl, Ct, Co, Ck, Cn, Cf, Cm, CK, Cs, CB, CE⟩
  obtain ⟨e1, e2, e3⟩ : scE Ls xs s B := CE
  exact va_slen Cx Cb e1 e2 e3 hS hd (kn p l e R s m args below meth c G B mc ms C ls H locs cells slots hl hw hS hn)
theorem wp_scrAt {S : SH} {Ls : Nat} {xs : Nat → Int32} {d cb sb : Nat} {Q : Option Value → AH → Prop} {pc : Nat} {L st : List Value} {h : AH} {z : UInt64} {i x : Int32} (hd : decode cL_law pc = .ok (.iaload, 1)) (hv : scA Ls xs i = some x) (kn : WP S (M_law Ls xs) d cb sb Q (pc + 1) L (.int x :: st) h) : WP S (M_law Ls xs) d cb sb Q pc L (.int i :: .double z :: st) h := by
  obtain ⟨hin, rfl⟩ := if_none hv
  intro p l e R s m args below meth c G B mc ms C ls H locs cells slots hl hw hS hn
  obtain ⟨Cx, Cb, Cr, Cl, Ct, Co, Ck, Cn, Cf, Cm, CK, Cs, CB, CE⟩ := C
  have C : CX (M_law Ls xs) d p R s m args meth c G B mc ms := ⟨Cx, Cb, Cr, Cl, Ct, Co, Ck, Cn, Cf, Cm, CK, Cs, CB, CE⟩
  obtain ⟨e1, e2, e3⟩ : scE Ls xs s B := CE
  exact va_sld Cx Cb e1 e2 e3 hS hin hd (kn p l e R s m args below meth c G B mc ms C ls H locs cells slots hl hw hS hn)
theorem ic_6 : Int32.ofInt 6 = (6 : Int32) := by decide
def f_L_law_l18b (S : SH) (Ls : Nat) (xs : Nat → Int32) (rc : Nat → Nat → Int32 → AH → Option ((Int32 ⊕ Unit) × AH)) (r1 : Nat) (r2 : Nat) (x3 : Int32) (h : AH) : Option ((Int32 ⊕ Unit) × AH) :=
  if ((nI Ls) - (6 : Int32)) < x3 then
    some (.inr (), h)
  else
    (scA Ls xs x3).bind fun v_2 =>
    if (v_2 &&& (63 : Int32)) = (0 : Int32) then
      (scA Ls xs (x3 + (1 : Int32))).bind fun v_5 =>
      (scA Ls xs (x3 + (2 : Int32))).bind fun v_7 =>
      (ckO S h r1 10).bind fun _ =>
      (f_X10_bird S r1 v_5 v_7 h).bind fun z => match z with
      | (z_11, h_10) =>
      (scA Ls xs (x3 + (1 : Int32))).bind fun v_12 =>
      (scA Ls xs (x3 + (2 : Int32))).bind fun v_14 =>
      (ckO S h_10 r2 11).bind fun _ =>
      (f_X11_bird S r2 v_12 v_14 h_10).bind fun z => match z with
      | (z_18, h_17) =>
      if z_11 = z_18 then
        lt (x3 + (6 : Int32)) fun y_20 =>
        rc r1 r2 y_20 h_17
      else
        some (.inl (0 : Int32), h_17)
    else
    if (v_2 &&& (63 : Int32)) = (1 : Int32) then
      (scA Ls xs (x3 + (1 : Int32))).bind fun v_22 =>
      (scA Ls xs (x3 + (2 : Int32))).bind fun v_24 =>
      (scA Ls xs (x3 + (3 : Int32))).bind fun v_26 =>
      (ckO S h r1 10).bind fun _ =>
      (f_X10_favour S r1 v_22 v_24 v_26 h).bind fun z => match z with
      | (z_30, h_29) =>
      (scA Ls xs (x3 + (1 : Int32))).bind fun v_31 =>
      (scA Ls xs (x3 + (2 : Int32))).bind fun v_33 =>
      (scA Ls xs (x3 + (3 : Int32))).bind fun v_35 =>
      (ckO S h_29 r2 11).bind fun _ =>
      (f_X11_favour S r2 v_31 v_33 v_35 h_29).bind fun z => match z with
      | (z_39, h_38) =>
      if z_30 = z_39 then
        lt (x3 + (6 : Int32)) fun y_41 =>
        rc r1 r2 y_41 h_38
      else
        some (.inl (0 : Int32), h_38)
    else
    if (v_2 &&& (63 : Int32)) = (2 : Int32) then
      (scA Ls xs (x3 + (1 : Int32))).bind fun v_43 =>
      (scA Ls xs (x3 + (2 : Int32))).bind fun v_45 =>
      (ckO S h r1 10).bind fun _ =>
      (f_X10_of S r1 v_43 v_45 h).bind fun z => match z with
      | (z_49, h_48) =>
      (scA Ls xs (x3 + (1 : Int32))).bind fun v_50 =>
      (scA Ls xs (x3 + (2 : Int32))).bind fun v_52 =>
      (ckO S h_48 r2 11).bind fun _ =>
      (f_X11_of S r2 v_50 v_52 h_48).bind fun z => match z with
      | (z_56, h_55) =>
      if z_49 = z_56 then
        lt (x3 + (6 : Int32)) fun y_58 =>
        rc r1 r2 y_58 h_55
      else
        some (.inl (0 : Int32), h_55)
    else
    if (v_2 &&& (63 : Int32)) = (3 : Int32) then
      (scA Ls xs (x3 + (1 : Int32))).bind fun v_60 =>
      (scA Ls xs (x3 + (2 : Int32))).bind fun v_62 =>
      (ckO S h r1 10).bind fun _ =>
      (f_X10_matter S r1 v_60 v_62 h).bind fun z => match z with
      | (z_66, h_65) =>
      (scA Ls xs (x3 + (1 : Int32))).bind fun v_67 =>
      (scA Ls xs (x3 + (2 : Int32))).bind fun v_69 =>
      (ckO S h_65 r2 11).bind fun _ =>
      (f_X11_matter S r2 v_67 v_69 h_65).bind fun z => match z with
      | (z_73, h_72) =>
      if z_66 = z_73 then
        lt (x3 + (6 : Int32)) fun y_75 =>
        rc r1 r2 y_75 h_72
      else
        some (.inl (0 : Int32), h_72)
    else
    if (v_2 &&& (63 : Int32)) = (4 : Int32) then
      (scA Ls xs (x3 + (1 : Int32))).bind fun v_77 =>
      (scA Ls xs (x3 + (2 : Int32))).bind fun v_79 =>
      (ckO S h r1 10).bind fun _ =>
      (f_X10_at S r1 v_77 v_79 h).bind fun z => match z with
      | (z_83, h_82) =>
      (scA Ls xs (x3 + (1 : Int32))).bind fun v_84 =>
      (scA Ls xs (x3 + (2 : Int32))).bind fun v_86 =>
      (ckO S h_82 r2 11).bind fun _ =>
      (f_X11_at S r2 v_84 v_86 h_82).bind fun z => match z with
      | (z_90, h_89) =>
      if z_83 = z_90 then
        lt (x3 + (6 : Int32)) fun y_92 =>
        rc r1 r2 y_92 h_89
      else
        some (.inl (0 : Int32), h_89)
    else
    if (v_2 &&& (63 : Int32)) = (5 : Int32) then
      (scA Ls xs (x3 + (1 : Int32))).bind fun v_94 =>
      (scA Ls xs (x3 + (2 : Int32))).bind fun v_96 =>
      (ckO S h r1 10).bind fun _ =>
      (f_X10_terms S r1 v_94 v_96 h).bind fun z => match z with
      | (z_100, h_99) =>
      (scA Ls xs (x3 + (1 : Int32))).bind fun v_101 =>
      (scA Ls xs (x3 + (2 : Int32))).bind fun v_103 =>
      (ckO S h_99 r2 11).bind fun _ =>
      (f_X11_terms S r2 v_101 v_103 h_99).bind fun z => match z with
      | (z_107, h_106) =>
      if z_100 = z_107 then
        lt (x3 + (6 : Int32)) fun y_109 =>
        rc r1 r2 y_109 h_106
      else
        some (.inl (0 : Int32), h_106)
    else
    if (v_2 &&& (63 : Int32)) = (6 : Int32) then
      (scA Ls xs (x3 + (1 : Int32))).bind fun v_111 =>
      (scA Ls xs (x3 + (2 : Int32))).bind fun v_113 =>
      (scA Ls xs (x3 + (3 : Int32))).bind fun v_115 =>
      (scA Ls xs (x3 + (4 : Int32))).bind fun v_117 =>
      (scA Ls xs (x3 + (5 : Int32))).bind fun v_119 =>
      (ckO S h r1 10).bind fun _ =>
      (f_X10_feed S r1 v_111 v_113 v_115 v_117 v_119 h).bind fun z => match z with
      | (z_123, h_122) =>
      (scA Ls xs (x3 + (1 : Int32))).bind fun v_124 =>
      (scA Ls xs (x3 + (2 : Int32))).bind fun v_126 =>
      (scA Ls xs (x3 + (3 : Int32))).bind fun v_128 =>
      (scA Ls xs (x3 + (4 : Int32))).bind fun v_130 =>
      (scA Ls xs (x3 + (5 : Int32))).bind fun v_132 =>
      (ckO S h_122 r2 11).bind fun _ =>
      (f_X11_feed S r2 v_124 v_126 v_128 v_130 v_132 h_122).bind fun z => match z with
      | (z_136, h_135) =>
      if z_123 = z_136 then
        lt (x3 + (6 : Int32)) fun y_138 =>
        rc r1 r2 y_138 h_135
      else
        some (.inl (0 : Int32), h_135)
    else
    if (v_2 &&& (63 : Int32)) = (7 : Int32) then
      (scA Ls xs (x3 + (1 : Int32))).bind fun v_140 =>
      (ckO S h r1 10).bind fun _ =>
      (f_X10_end S r1 v_140 h).bind fun z => match z with
      | (z_144, h_143) =>
      (scA Ls xs (x3 + (1 : Int32))).bind fun v_145 =>
      (ckO S h_143 r2 11).bind fun _ =>
      (f_X11_end S r2 v_145 h_143).bind fun z => match z with
      | (z_149, h_148) =>
      if z_144 = z_149 then
        lt (x3 + (6 : Int32)) fun y_151 =>
        rc r1 r2 y_151 h_148
      else
        some (.inl (0 : Int32), h_148)
    else
    if (v_2 &&& (63 : Int32)) = (8 : Int32) then
      (ckO S h r1 10).bind fun _ =>
      (f_X10_row S r1 h).bind fun z => match z with
      | (z_155, h_154) =>
      (ckO S h_154 r2 11).bind fun _ =>
      (f_X11_row S r2 h_154).bind fun z => match z with
      | (z_158, h_157) =>
      if z_155 = z_158 then
        lt (x3 + (6 : Int32)) fun y_160 =>
        rc r1 r2 y_160 h_157
      else
        some (.inl (0 : Int32), h_157)
    else
    if (v_2 &&& (63 : Int32)) = (9 : Int32) then
      (ckO S h r1 10).bind fun _ =>
      (f_X10_cats S r1 h).bind fun z => match z with
      | (z_164, h_163) =>
      (ckO S h_163 r2 11).bind fun _ =>
      (f_X11_cats S r2 h_163).bind fun z => match z with
      | (z_167, h_166) =>
      if z_164 = z_167 then
        lt (x3 + (6 : Int32)) fun y_169 =>
        rc r1 r2 y_169 h_166
      else
        some (.inl (0 : Int32), h_166)
    else
    if (v_2 &&& (63 : Int32)) = (10 : Int32) then
      (ckO S h r1 10).bind fun _ =>
      (f_X10_law S r1 h).bind fun z => match z with
      | (z_172, h_171) =>
      (ckO S h_171 r2 11).bind fun _ =>
      (f_X11_law S r2 h_171).bind fun z => match z with
      | (z_176, h_175) =>
      if z_172 = z_176 then
        lt (x3 + (6 : Int32)) fun y_178 =>
        rc r1 r2 y_178 h_175
      else
        some (.inl (0 : Int32), h_175)
    else
    if (v_2 &&& (63 : Int32)) = (11 : Int32) then
      (ckO S h r1 10).bind fun _ =>
      (f_X10_orders S r1 h).bind fun z => match z with
      | (z_182, h_181) =>
      (ckO S h_181 r2 11).bind fun _ =>
      (f_X11_orders S r2 h_181).bind fun z => match z with
      | (z_185, h_184) =>
      if z_182 = z_185 then
        lt (x3 + (6 : Int32)) fun y_187 =>
        rc r1 r2 y_187 h_184
      else
        some (.inl (0 : Int32), h_184)
    else
    if (v_2 &&& (63 : Int32)) = (12 : Int32) then
      (ckO S h r1 10).bind fun _ =>
      (f_X10_fault S r1 h).bind fun z => match z with
      | (z_191, h_190) =>
      (ckO S h_190 r2 11).bind fun _ =>
      (f_X11_fault S r2 h_190).bind fun z => match z with
      | (z_194, h_193) =>
      if z_191 = z_194 then
        lt (x3 + (6 : Int32)) fun y_196 =>
        rc r1 r2 y_196 h_193
      else
        some (.inl (0 : Int32), h_193)
    else
    if (v_2 &&& (63 : Int32)) = (13 : Int32) then
      (ckO S h r1 10).bind fun _ =>
      (f_X10_stopped S r1 h).bind fun z => match z with
      | (z_200, h_199) =>
      (ckO S h_199 r2 11).bind fun _ =>
      (f_X11_stopped S r2 h_199).bind fun z => match z with
      | (z_203, h_202) =>
      if z_200 = z_203 then
        lt (x3 + (6 : Int32)) fun y_205 =>
        rc r1 r2 y_205 h_202
      else
        some (.inl (0 : Int32), h_202)
    else
    if (v_2 &&& (63 : Int32)) = (14 : Int32) then
      (scA Ls xs (x3 + (1 : Int32))).bind fun v_207 =>
      (ckO S h r1 10).bind fun _ =>
      (f_X10_force S r1 v_207 h).bind fun z => match z with
      | (z_211, h_210) =>
      (scA Ls xs (x3 + (1 : Int32))).bind fun v_212 =>
      (ckO S h_210 r2 11).bind fun _ =>
      (f_X11_force S r2 v_212 h_210).bind fun z => match z with
      | (z_216, h_215) =>
      if z_211 = z_216 then
        lt (x3 + (6 : Int32)) fun y_218 =>
        rc r1 r2 y_218 h_215
      else
        some (.inl (0 : Int32), h_215)
    else
    if (v_2 &&& (63 : Int32)) = (15 : Int32) then
      (scA Ls xs (x3 + (1 : Int32))).bind fun v_220 =>
      (scA Ls xs (x3 + (2 : Int32))).bind fun v_222 =>
      (ckO S h r1 10).bind fun _ =>
      (f_X10_move S r1 v_220 v_222 h).bind fun z => match z with
      | (z_226, h_225) =>
      (scA Ls xs (x3 + (1 : Int32))).bind fun v_227 =>
      (scA Ls xs (x3 + (2 : Int32))).bind fun v_229 =>
      (ckO S h_225 r2 11).bind fun _ =>
      (f_X11_move S r2 v_227 v_229 h_225).bind fun z => match z with
      | (z_233, h_232) =>
      if z_226 = z_233 then
        lt (x3 + (6 : Int32)) fun y_235 =>
        rc r1 r2 y_235 h_232
      else
        some (.inl (0 : Int32), h_232)
    else
    if (v_2 &&& (63 : Int32)) = (16 : Int32) then
      (scA Ls xs (x3 + (1 : Int32))).bind fun v_237 =>
      (ckO S h r1 10).bind fun _ =>
      (f_X10_divide S r1 v_237 h).bind fun z => match z with
      | (z_241, h_240) =>
      (scA Ls xs (x3 + (1 : Int32))).bind fun v_242 =>
      (ckO S h_240 r2 11).bind fun _ =>
      (f_X11_divide S r2 v_242 h_240).bind fun z => match z with
      | (z_246, h_245) =>
      if z_241 = z_246 then
        lt (x3 + (6 : Int32)) fun y_248 =>
        rc r1 r2 y_248 h_245
      else
        some (.inl (0 : Int32), h_245)
    else
    if (v_2 &&& (63 : Int32)) = (17 : Int32) then
      (scA Ls xs (x3 + (1 : Int32))).bind fun v_250 =>
      (scA Ls xs (x3 + (2 : Int32))).bind fun v_252 =>
      (ckO S h r1 10).bind fun _ =>
      (f_X10_fly S r1 v_250 v_252 h).bind fun z => match z with
      | (z_256, h_255) =>
      (scA Ls xs (x3 + (1 : Int32))).bind fun v_257 =>
      (scA Ls xs (x3 + (2 : Int32))).bind fun v_259 =>
      (ckO S h_255 r2 11).bind fun _ =>
      (f_X11_fly S r2 v_257 v_259 h_255).bind fun z => match z with
      | (z_263, h_262) =>
      if z_256 = z_263 then
        lt (x3 + (6 : Int32)) fun y_265 =>
        rc r1 r2 y_265 h_262
      else
        some (.inl (0 : Int32), h_262)
    else
    if (v_2 &&& (63 : Int32)) = (18 : Int32) then
      (ckO S h r1 10).bind fun _ =>
      (f_X10_pass S r1 h).bind fun z => match z with
      | (z_269, h_268) =>
      (ckO S h_268 r2 11).bind fun _ =>
      (f_X11_pass S r2 h_268).bind fun z => match z with
      | (z_272, h_271) =>
      if z_269 = z_272 then
        lt (x3 + (6 : Int32)) fun y_274 =>
        rc r1 r2 y_274 h_271
      else
        some (.inl (0 : Int32), h_271)
    else
    if (v_2 &&& (63 : Int32)) = (19 : Int32) then
      (ckO S h r1 10).bind fun _ =>
      (f_X10_undo S r1 h).bind fun z => match z with
      | (z_278, h_277) =>
      (ckO S h_277 r2 11).bind fun _ =>
      (f_X11_undo S r2 h_277).bind fun z => match z with
      | (z_281, h_280) =>
      if z_278 = z_281 then
        lt (x3 + (6 : Int32)) fun y_283 =>
        rc r1 r2 y_283 h_280
      else
        some (.inl (0 : Int32), h_280)
    else
    if (v_2 &&& (63 : Int32)) = (20 : Int32) then
      (scA Ls xs (x3 + (1 : Int32))).bind fun v_285 =>
      (scA Ls xs (x3 + (2 : Int32))).bind fun v_287 =>
      (ckO S h r1 10).bind fun _ =>
      (f_X10_second S r1 v_285 v_287 h).bind fun z => match z with
      | (z_291, h_290) =>
      (scA Ls xs (x3 + (1 : Int32))).bind fun v_292 =>
      (scA Ls xs (x3 + (2 : Int32))).bind fun v_294 =>
      (ckO S h_290 r2 11).bind fun _ =>
      (f_X11_second S r2 v_292 v_294 h_290).bind fun z => match z with
      | (z_298, h_297) =>
      if z_291 = z_298 then
        lt (x3 + (6 : Int32)) fun y_300 =>
        rc r1 r2 y_300 h_297
      else
        some (.inl (0 : Int32), h_297)
    else
    if (v_2 &&& (63 : Int32)) = (21 : Int32) then
      (scA Ls xs (x3 + (1 : Int32))).bind fun v_302 =>
      (ckO S h r1 10).bind fun _ =>
      (f_X10_richest S r1 v_302 h).bind fun z => match z with
      | (z_306, h_305) =>
      (scA Ls xs (x3 + (1 : Int32))).bind fun v_307 =>
      (ckO S h_305 r2 11).bind fun _ =>
      (f_X11_richest S r2 v_307 h_305).bind fun z => match z with
      | (z_311, h_310) =>
      if z_306 = z_311 then
        lt (x3 + (6 : Int32)) fun y_313 =>
        rc r1 r2 y_313 h_310
      else
        some (.inl (0 : Int32), h_310)
    else
    if (v_2 &&& (63 : Int32)) = (22 : Int32) then
      (scA Ls xs (x3 + (1 : Int32))).bind fun v_315 =>
      (ckO S h r1 10).bind fun _ =>
      (f_X10_byClock S r1 v_315 h).bind fun z => match z with
      | (z_319, h_318) =>
      (scA Ls xs (x3 + (1 : Int32))).bind fun v_320 =>
      (ckO S h_318 r2 11).bind fun _ =>
      (f_X11_byClock S r2 v_320 h_318).bind fun z => match z with
      | (z_324, h_323) =>
      if z_319 = z_324 then
        lt (x3 + (6 : Int32)) fun y_326 =>
        rc r1 r2 y_326 h_323
      else
        some (.inl (0 : Int32), h_323)
    else
    if (v_2 &&& (63 : Int32)) = (23 : Int32) then
      (scA Ls xs (x3 + (1 : Int32))).bind fun v_328 =>
      (scA Ls xs (x3 + (2 : Int32))).bind fun v_330 =>
      (ckO S h r1 10).bind fun _ =>
      (f_X10_spoilt S r1 v_328 v_330 h).bind fun z => match z with
      | (z_334, h_333) =>
      (scA Ls xs (x3 + (1 : Int32))).bind fun v_335 =>
      (scA Ls xs (x3 + (2 : Int32))).bind fun v_337 =>
      (ckO S h_333 r2 11).bind fun _ =>
      (f_X11_spoilt S r2 v_335 v_337 h_333).bind fun z => match z with
      | (z_341, h_340) =>
      if z_334 = z_341 then
        lt (x3 + (6 : Int32)) fun y_343 =>
        rc r1 r2 y_343 h_340
      else
        some (.inl (0 : Int32), h_340)
    else
    if (v_2 &&& (63 : Int32)) = (24 : Int32) then
      (scA Ls xs (x3 + (1 : Int32))).bind fun v_345 =>
      (scA Ls xs (x3 + (2 : Int32))).bind fun v_347 =>
      (ckO S h r1 10).bind fun _ =>
      (f_X10_come S r1 v_345 v_347 h).bind fun z => match z with
      | (z_351, h_350) =>
      (scA Ls xs (x3 + (1 : Int32))).bind fun v_352 =>
      (scA Ls xs (x3 + (2 : Int32))).bind fun v_354 =>
      (ckO S h_350 r2 11).bind fun _ =>
      (f_X11_come S r2 v_352 v_354 h_350).bind fun z => match z with
      | (z_358, h_357) =>
      if z_351 = z_358 then
        lt (x3 + (6 : Int32)) fun y_360 =>
        rc r1 r2 y_360 h_357
      else
        some (.inl (0 : Int32), h_357)
    else
    if (v_2 &&& (63 : Int32)) = (25 : Int32) then
      (scA Ls xs (x3 + (1 : Int32))).bind fun v_362 =>
      (scA Ls xs (x3 + (2 : Int32))).bind fun v_364 =>
      (scA Ls xs (x3 + (3 : Int32))).bind fun v_366 =>
      (ckO S h r1 10).bind fun _ =>
      (f_X10_chain S r1 v_362 v_364 v_366 h).bind fun z => match z with
      | (z_370, h_369) =>
      (scA Ls xs (x3 + (1 : Int32))).bind fun v_371 =>
      (scA Ls xs (x3 + (2 : Int32))).bind fun v_373 =>
      (scA Ls xs (x3 + (3 : Int32))).bind fun v_375 =>
      (ckO S h_369 r2 11).bind fun _ =>
      (f_X11_chain S r2 v_371 v_373 v_375 h_369).bind fun z => match z with
      | (z_379, h_378) =>
      if z_370 = z_379 then
        lt (x3 + (6 : Int32)) fun y_381 =>
        rc r1 r2 y_381 h_378
      else
        some (.inl (0 : Int32), h_378)
    else
    if (v_2 &&& (63 : Int32)) = (26 : Int32) then
      (scA Ls xs (x3 + (1 : Int32))).bind fun v_383 =>
      (ckO S h r1 10).bind fun _ =>
      (f_X10_ears S r1 v_383 h).bind fun z => match z with
      | (z_387, h_386) =>
      (scA Ls xs (x3 + (1 : Int32))).bind fun v_388 =>
      (ckO S h_386 r2 11).bind fun _ =>
      (f_X11_ears S r2 v_388 h_386).bind fun z => match z with
      | (z_392, h_391) =>
      if z_387 = z_392 then
        lt (x3 + (6 : Int32)) fun y_394 =>
        rc r1 r2 y_394 h_391
      else
        some (.inl (0 : Int32), h_391)
    else
    if (v_2 &&& (63 : Int32)) = (27 : Int32) then
      (scA Ls xs (x3 + (1 : Int32))).bind fun v_396 =>
      (ckO S h r1 10).bind fun _ =>
      (f_X10_loudest S r1 v_396 h).bind fun z => match z with
      | (z_400, h_399) =>
      (scA Ls xs (x3 + (1 : Int32))).bind fun v_401 =>
      (ckO S h_399 r2 11).bind fun _ =>
      (f_X11_loudest S r2 v_401 h_399).bind fun z => match z with
      | (z_405, h_404) =>
      if z_400 = z_405 then
        lt (x3 + (6 : Int32)) fun y_407 =>
        rc r1 r2 y_407 h_404
      else
        some (.inl (0 : Int32), h_404)
    else
    if (v_2 &&& (63 : Int32)) = (28 : Int32) then
      (scA Ls xs (x3 + (1 : Int32))).bind fun v_409 =>
      (scA Ls xs (x3 + (2 : Int32))).bind fun v_411 =>
      (ckO S h r1 10).bind fun _ =>
      (f_X10_nearest S r1 v_409 v_411 h).bind fun z => match z with
      | (z_415, h_414) =>
      (scA Ls xs (x3 + (1 : Int32))).bind fun v_416 =>
      (scA Ls xs (x3 + (2 : Int32))).bind fun v_418 =>
      (ckO S h_414 r2 11).bind fun _ =>
      (f_X11_nearest S r2 v_416 v_418 h_414).bind fun z => match z with
      | (z_422, h_421) =>
      if z_415 = z_422 then
        lt (x3 + (6 : Int32)) fun y_424 =>
        rc r1 r2 y_424 h_421
      else
        some (.inl (0 : Int32), h_421)
    else
    if (v_2 &&& (63 : Int32)) = (29 : Int32) then
      (scA Ls xs (x3 + (1 : Int32))).bind fun v_426 =>
      (ckO S h r1 10).bind fun _ =>
      (f_X10_heard S r1 v_426 h).bind fun z => match z with
      | (z_430, h_429) =>
      (scA Ls xs (x3 + (1 : Int32))).bind fun v_431 =>
      (ckO S h_429 r2 11).bind fun _ =>
      (f_X11_heard S r2 v_431 h_429).bind fun z => match z with
      | (z_435, h_434) =>
      if z_430 = z_435 then
        lt (x3 + (6 : Int32)) fun y_437 =>
        rc r1 r2 y_437 h_434
      else
        some (.inl (0 : Int32), h_434)
    else
    if (v_2 &&& (63 : Int32)) = (30 : Int32) then
      (ckO S h r1 10).bind fun _ =>
      (f_X10_forget S r1 h).bind fun z => match z with
      | (z_441, h_440) =>
      (ckO S h_440 r2 11).bind fun _ =>
      (f_X11_forget S r2 h_440).bind fun z => match z with
      | (z_444, h_443) =>
      if z_441 = z_444 then
        lt (x3 + (6 : Int32)) fun y_446 =>
        rc r1 r2 y_446 h_443
      else
        some (.inl (0 : Int32), h_443)
    else
    if (v_2 &&& (63 : Int32)) = (31 : Int32) then
      (ckO S h r1 10).bind fun _ =>
      (f_X10_canBe S r1 h).bind fun z => match z with
      | (z_450, h_449) =>
      (ckO S h_449 r2 11).bind fun _ =>
      (f_X11_canBe S r2 h_449).bind fun z => match z with
      | (z_453, h_452) =>
      if z_450 = z_453 then
        lt (x3 + (6 : Int32)) fun y_455 =>
        rc r1 r2 y_455 h_452
      else
        some (.inl (0 : Int32), h_452)
    else
    if (v_2 &&& (63 : Int32)) = (32 : Int32) then
      (scA Ls xs (x3 + (1 : Int32))).bind fun v_457 =>
      (ckO S h r1 10).bind fun _ =>
      (f_X10_listen S r1 v_457 h).bind fun z => match z with
      | (z_461, h_460) =>
      (scA Ls xs (x3 + (1 : Int32))).bind fun v_462 =>
      (ckO S h_460 r2 11).bind fun _ =>
      (f_X11_listen S r2 v_462 h_460).bind fun z => match z with
      | (z_466, h_465) =>
      if z_461 = z_466 then
        lt (x3 + (6 : Int32)) fun y_468 =>
        rc r1 r2 y_468 h_465
      else
        some (.inl (0 : Int32), h_465)
    else
    if (v_2 &&& (63 : Int32)) = (33 : Int32) then
      (scA Ls xs (x3 + (1 : Int32))).bind fun v_470 =>
      (scA Ls xs (x3 + (2 : Int32))).bind fun v_472 =>
      (ckO S h r1 10).bind fun _ =>
      (f_X10_few S r1 v_470 v_472 h).bind fun z => match z with
      | (z_475, h_474) =>
      (scA Ls xs (x3 + (1 : Int32))).bind fun v_477 =>
      (scA Ls xs (x3 + (2 : Int32))).bind fun v_479 =>
      (ckO S h_474 r2 11).bind fun _ =>
      (f_X11_few S r2 v_477 v_479 h_474).bind fun z => match z with
      | (z_483, h_482) =>
      if (lg_cmp z_475 z_483) = (0 : Int32) then
        lt (x3 + (6 : Int32)) fun y_485 =>
        rc r1 r2 y_485 h_482
      else
        some (.inl (0 : Int32), h_482)
    else
    if (v_2 &&& (63 : Int32)) = (34 : Int32) then
      (scA Ls xs (x3 + (1 : Int32))).bind fun v_487 =>
      (scA Ls xs (x3 + (2 : Int32))).bind fun v_489 =>
      (ckO S h r1 10).bind fun _ =>
      (f_X10_compare S r1 v_487 v_489 h).bind fun z => match z with
      | (z_493, h_492) =>
      (scA Ls xs (x3 + (1 : Int32))).bind fun v_494 =>
      (scA Ls xs (x3 + (2 : Int32))).bind fun v_496 =>
      (ckO S h_492 r2 11).bind fun _ =>
      (f_X11_compare S r2 v_494 v_496 h_492).bind fun z => match z with
      | (z_500, h_499) =>
      if z_493 = z_500 then
        lt (x3 + (6 : Int32)) fun y_502 =>
        rc r1 r2 y_502 h_499
      else
        some (.inl (0 : Int32), h_499)
    else
    if (v_2 &&& (63 : Int32)) = (35 : Int32) then
      (scA Ls xs (x3 + (1 : Int32))).bind fun v_504 =>
      (scA Ls xs (x3 + (2 : Int32))).bind fun v_506 =>
      (ckO S h r1 10).bind fun _ =>
      (f_X10_mays S r1 v_504 v_506 h).bind fun z => match z with
      | (z_510, h_509) =>
      (scA Ls xs (x3 + (1 : Int32))).bind fun v_511 =>
      (scA Ls xs (x3 + (2 : Int32))).bind fun v_513 =>
      (ckO S h_509 r2 11).bind fun _ =>
      (f_X11_mays S r2 v_511 v_513 h_509).bind fun z => match z with
      | (z_517, h_516) =>
      if z_510 = z_517 then
        lt (x3 + (6 : Int32)) fun y_519 =>
        rc r1 r2 y_519 h_516
      else
        some (.inl (0 : Int32), h_516)
    else
    if (v_2 &&& (63 : Int32)) = (36 : Int32) then
      (scA Ls xs (x3 + (1 : Int32))).bind fun v_521 =>
      (scA Ls xs (x3 + (2 : Int32))).bind fun v_523 =>
      (ckO S h r1 10).bind fun _ =>
      (f_X10_drawn S r1 v_521 v_523 h).bind fun z => match z with
      | (z_527, h_526) =>
      (scA Ls xs (x3 + (1 : Int32))).bind fun v_528 =>
      (scA Ls xs (x3 + (2 : Int32))).bind fun v_530 =>
      (ckO S h_526 r2 11).bind fun _ =>
      (f_X11_drawn S r2 v_528 v_530 h_526).bind fun z => match z with
      | (z_534, h_533) =>
      if z_527 = z_534 then
        lt (x3 + (6 : Int32)) fun y_536 =>
        rc r1 r2 y_536 h_533
      else
        some (.inl (0 : Int32), h_533)
    else
    if (v_2 &&& (63 : Int32)) = (37 : Int32) then
      (scA Ls xs (x3 + (1 : Int32))).bind fun v_538 =>
      (ckO S h r1 10).bind fun _ =>
      (f_X10_image S r1 v_538 h).bind fun z => match z with
      | (z_542, h_541) =>
      (scA Ls xs (x3 + (1 : Int32))).bind fun v_543 =>
      (ckO S h_541 r2 11).bind fun _ =>
      (f_X11_image S r2 v_543 h_541).bind fun z => match z with
      | (z_547, h_546) =>
      if z_542 = z_547 then
        lt (x3 + (6 : Int32)) fun y_549 =>
        rc r1 r2 y_549 h_546
      else
        some (.inl (0 : Int32), h_546)
    else
    if (v_2 &&& (63 : Int32)) = (38 : Int32) then
      (scA Ls xs (x3 + (1 : Int32))).bind fun v_551 =>
      (ckO S h r1 10).bind fun _ =>
      (f_X10_back S r1 v_551 h).bind fun z => match z with
      | (z_555, h_554) =>
      (scA Ls xs (x3 + (1 : Int32))).bind fun v_556 =>
      (ckO S h_554 r2 11).bind fun _ =>
      (f_X11_back S r2 v_556 h_554).bind fun z => match z with
      | (z_560, h_559) =>
      if z_555 = z_560 then
        lt (x3 + (6 : Int32)) fun y_562 =>
        rc r1 r2 y_562 h_559
      else
        some (.inl (0 : Int32), h_559)
    else
    if (v_2 &&& (63 : Int32)) = (39 : Int32) then
      (scA Ls xs (x3 + (1 : Int32))).bind fun v_564 =>
      (ckO S h r1 10).bind fun _ =>
      (f_X10_count S r1 v_564 h).bind fun z => match z with
      | (z_568, h_567) =>
      (scA Ls xs (x3 + (1 : Int32))).bind fun v_569 =>
      (ckO S h_567 r2 11).bind fun _ =>
      (f_X11_count S r2 v_569 h_567).bind fun z => match z with
      | (z_573, h_572) =>
      if z_568 = z_573 then
        lt (x3 + (6 : Int32)) fun y_575 =>
        rc r1 r2 y_575 h_572
      else
        some (.inl (0 : Int32), h_572)
    else
    if (v_2 &&& (63 : Int32)) = (40 : Int32) then
      (ckO S h r1 10).bind fun _ =>
      (f_X10_status S r1 h).bind fun z => match z with
      | (z_579, h_578) =>
      (ckO S h_578 r2 11).bind fun _ =>
      (f_X11_status S r2 h_578).bind fun z => match z with
      | (z_582, h_581) =>
      if z_579 = z_582 then
        lt (x3 + (6 : Int32)) fun y_584 =>
        rc r1 r2 y_584 h_581
      else
        some (.inl (0 : Int32), h_581)
    else
    lt (x3 + (6 : Int32)) fun y_585 =>
    rc r1 r2 y_585 h
set_option maxHeartbeats 100000000 in
set_option maxRecDepth 200000 in
theorem s_L_law_l18b {S : SH} {Ls : Nat} {xs : Nat → Int32} {d cb sb : Nat} {Q : Option Value → AH → Prop} (hd : 86 ≤ d) {K : (Int32 ⊕ Unit) → AH → Prop} (hret : ∀ (w : Int32) (h' : AH), K (.inl w) h' → Q (some (.int w)) h') (hex : ∀  (h' : AH), K (.inr ()) h' → WP S (M_law Ls xs) d cb sb Q 1282 [.double 0, JK, JK, JK] [] h') {rc : Nat → Nat → Int32 → AH → Option ((Int32 ⊕ Unit) × AH)} (hrec : ∀ (r1 : Nat) (r2 : Nat) (x3 : Int32) (h' : AH), ok (rc r1 r2 x3 h') K → WP S (M_law Ls xs) d cb sb Q 18 [.double 0, .ref r1, .ref r2, .int x3] [] h') {r1 : Nat} {r2 : Nat} {x3 : Int32} {h : AH} (k : ok (f_L_law_l18b S Ls xs rc r1 r2 x3 h) K) : WP S (M_law Ls xs) d (cb + 3) (sb + 476) Q 18 [.double 0, .ref r1, .ref r2, .int x3] [] h := by
  obtain ⟨d, rfl, he⟩ := dp (L := 85) hd
  unfold f_L_law_l18b at k
  refine wp_iload_n dL_law_18 rfl ?_
  refine wp_aloadS_n dL_law_19 rfl ?_
  refine wp_scrLen dL_law_20 ?_
  refine wp_bipush dL_law_21 bp_6 ?_
  refine wp_isub dL_law_23 ?_
  refine wp_icmp_gt 1282 dL_law_24 (by decide) (fun c_1 => ?_) (fun c_1 => ?_)
  · replace k := ok_t c_1 k
    refine wp_bud 3 476 ?_
    exact wp_wk (wkE <| wkJ <| wkJ <| wkJ <| wkN) (hex  _ (ok_some k))
  · replace k := ok_f c_1 k
    refine wp_aloadS_n dL_law_27 rfl ?_
    refine wp_iload_n dL_law_28 rfl ?_
    replace k := ok_bind k
    obtain ⟨v_2, e_3, k⟩ := k
    refine wp_scrAt dL_law_29 e_3 ?_
    refine wp_bipush dL_law_30 bp_63 ?_
    refine wp_iand dL_law_32 ?_
    refine wp_case (0 : Int32) (fun c_4 => ?_) (fun c_4 => ?_)
    · refine wp_tabIn 212 dL_law_33 (by rw [c_4]; decide) (by rw [c_4]; decide) (by rw [c_4]; rfl) (by decide) ?_
      replace k := ok_t c_4 k
      refine wp_aload_n dL_law_212 rfl ?_
      refine wp_aloadS_n dL_law_213 rfl ?_
      refine wp_iload_n dL_law_214 rfl ?_
      refine wp_iconst dL_law_215 ic_1 ?_
      refine wp_iadd dL_law_216 ?_
      replace k := ok_bind k
      obtain ⟨v_5, e_6, k⟩ := k
      refine wp_scrAt dL_law_217 e_6 ?_
      refine wp_aloadS_n dL_law_218 rfl ?_
      refine wp_iload_n dL_law_219 rfl ?_
      refine wp_iconst dL_law_220 ic_2 ?_
      refine wp_iadd dL_law_221 ?_
      replace k := ok_bind k
      obtain ⟨v_7, e_8, k⟩ := k
      refine wp_scrAt dL_law_222 e_8 ?_
      replace k := ok_bind k
      obtain ⟨u, e_9, k⟩ := k
      refine wp_callV2 (N := M_X10_bird) (ci := 10) mf_X10_bird mi_X10_bird me_X10_bird ml_L_13 dL_law_223 (ckO_e e_9) mv_X10_bird (by exact Nat.le_of_ble_eq_true rfl) (c_X10_bird (Nat.le_trans (by decide) he) (ok_mono (ok_bind2 k) fun z_11 h_10 k => ?_))
      try dsimp only at k
      refine wp_aload_n dL_law_226 rfl ?_
      refine wp_aloadS_n dL_law_227 rfl ?_
      refine wp_iload_n dL_law_228 rfl ?_
      refine wp_iconst dL_law_229 ic_1 ?_
      refine wp_iadd dL_law_230 ?_
      replace k := ok_bind k
      obtain ⟨v_12, e_13, k⟩ := k
      refine wp_scrAt dL_law_231 e_13 ?_
      refine wp_aloadS_n dL_law_232 rfl ?_
      refine wp_iload_n dL_law_233 rfl ?_
      refine wp_iconst dL_law_234 ic_2 ?_
      refine wp_iadd dL_law_235 ?_
      replace k := ok_bind k
      obtain ⟨v_14, e_15, k⟩ := k
      refine wp_scrAt dL_law_236 e_15 ?_
      replace k := ok_bind k
      obtain ⟨u, e_16, k⟩ := k
      refine wp_callV2 (N := M_X11_bird) (ci := 11) mf_X11_bird mi_X11_bird me_X11_bird ml_L_17 dL_law_237 (ckO_e e_16) mv_X11_bird (by exact Nat.le_of_ble_eq_true rfl) (c_X11_bird (Nat.le_trans (by decide) he) (ok_mono (ok_bind2 k) fun z_18 h_17 k => ?_))
      try dsimp only at k
      refine wp_icmp_eq 1276 dL_law_240 (by decide) (fun c_19 => ?_) (fun c_19 => ?_)
      · replace k := ok_t c_19 k
        replace k := ok_lt k
        refine wp_iinc dL_law_1276 rfl ic_6 (by exact Nat.le_of_ble_eq_true rfl) (L1 := [_, _, _, _]) rfl ?_
        refine wp_goto 18 dL_law_1279 (by decide) ?_
        refine wp_bud 3 476 ?_
        exact wp_wk (wkE <| wkE <| wkE <| wkE <| wkN) (hrec _ _ _ _ k)
      · replace k := ok_f c_19 k
        refine wp_iconst dL_law_243 ic_0 ?_
        refine wp_iret rfl rfl dL_law_244 ?_
        exact hret _ _ (ok_some k)
    replace k := ok_f c_4 k
    refine wp_case (1 : Int32) (fun c_21 => ?_) (fun c_21 => ?_)
    · refine wp_tabIn 245 dL_law_33 (by rw [c_21]; decide) (by rw [c_21]; decide) (by rw [c_21]; rfl) (by decide) ?_
      replace k := ok_t c_21 k
      refine wp_aload_n dL_law_245 rfl ?_
      refine wp_aloadS_n dL_law_246 rfl ?_
      refine wp_iload_n dL_law_247 rfl ?_
      refine wp_iconst dL_law_248 ic_1 ?_
      refine wp_iadd dL_law_249 ?_
      replace k := ok_bind k
      obtain ⟨v_22, e_23, k⟩ := k
      refine wp_scrAt dL_law_250 e_23 ?_
      refine wp_aloadS_n dL_law_251 rfl ?_
      refine wp_iload_n dL_law_252 rfl ?_
      refine wp_iconst dL_law_253 ic_2 ?_
      refine wp_iadd dL_law_254 ?_
      replace k := ok_bind k
      obtain ⟨v_24, e_25, k⟩ := k
      refine wp_scrAt dL_law_255 e_25 ?_
      refine wp_aloadS_n dL_law_256 rfl ?_
      refine wp_iload_n dL_law_257 rfl ?_
      refine wp_iconst dL_law_258 ic_3 ?_
      refine wp_iadd dL_law_259 ?_
      replace k := ok_bind k
      obtain ⟨v_26, e_27, k⟩ := k
      refine wp_scrAt dL_law_260 e_27 ?_
      replace k := ok_bind k
      obtain ⟨u, e_28, k⟩ := k
      refine wp_callV3 (N := M_X10_favour) (ci := 10) mf_X10_favour mi_X10_favour me_X10_favour ml_L_18 dL_law_261 (ckO_e e_28) mv_X10_favour (by exact Nat.le_of_ble_eq_true rfl) (c_X10_favour (Nat.le_trans (by decide) he) (ok_mono (ok_bind2 k) fun z_30 h_29 k => ?_))
      try dsimp only at k
      refine wp_aload_n dL_law_264 rfl ?_
      refine wp_aloadS_n dL_law_265 rfl ?_
      refine wp_iload_n dL_law_266 rfl ?_
      refine wp_iconst dL_law_267 ic_1 ?_
      refine wp_iadd dL_law_268 ?_
      replace k := ok_bind k
      obtain ⟨v_31, e_32, k⟩ := k
      refine wp_scrAt dL_law_269 e_32 ?_
      refine wp_aloadS_n dL_law_270 rfl ?_
      refine wp_iload_n dL_law_271 rfl ?_
      refine wp_iconst dL_law_272 ic_2 ?_
      refine wp_iadd dL_law_273 ?_
      replace k := ok_bind k
      obtain ⟨v_33, e_34, k⟩ := k
      refine wp_scrAt dL_law_274 e_34 ?_
      refine wp_aloadS_n dL_law_275 rfl ?_
      refine wp_iload_n dL_law_276 rfl ?_
      refine wp_iconst dL_law_277 ic_3 ?_
      refine wp_iadd dL_law_278 ?_
      replace k := ok_bind k
      obtain ⟨v_35, e_36, k⟩ := k
      refine wp_scrAt dL_law_279 e_36 ?_
      replace k := ok_bind k
      obtain ⟨u, e_37, k⟩ := k
      refine wp_callV3 (N := M_X11_favour) (ci := 11) mf_X11_favour mi_X11_favour me_X11_favour ml_L_22 dL_law_280 (ckO_e e_37) mv_X11_favour (by exact Nat.le_of_ble_eq_true rfl) (c_X11_favour (Nat.le_trans (by decide) he) (ok_mono (ok_bind2 k) fun z_39 h_38 k => ?_))
      try dsimp only at k
      refine wp_icmp_eq 1276 dL_law_283 (by decide) (fun c_40 => ?_) (fun c_40 => ?_)
      · replace k := ok_t c_40 k
        replace k := ok_lt k
        refine wp_iinc dL_law_1276 rfl ic_6 (by exact Nat.le_of_ble_eq_true rfl) (L1 := [_, _, _, _]) rfl ?_
        refine wp_goto 18 dL_law_1279 (by decide) ?_
        refine wp_bud 3 476 ?_
        exact wp_wk (wkE <| wkE <| wkE <| wkE <| wkN) (hrec _ _ _ _ k)
      · replace k := ok_f c_40 k
        refine wp_iconst dL_law_286 ic_0 ?_
        refine wp_iret rfl rfl dL_law_287 ?_
        exact hret _ _ (ok_some k)
    replace k := ok_f c_21 k
    refine wp_case (2 : Int32) (fun c_42 => ?_) (fun c_42 => ?_)
    · refine wp_tabIn 288 dL_law_33 (by rw [c_42]; decide) (by rw [c_42]; decide) (by rw [c_42]; rfl) (by decide) ?_
      replace k := ok_t c_42 k
      refine wp_aload_n dL_law_288 rfl ?_
      refine wp_aloadS_n dL_law_289 rfl ?_
      refine wp_iload_n dL_law_290 rfl ?_
      refine wp_iconst dL_law_291 ic_1 ?_
      refine wp_iadd dL_law_292 ?_
      replace k := ok_bind k
      obtain ⟨v_43, e_44, k⟩ := k
      refine wp_scrAt dL_law_293 e_44 ?_
      refine wp_aloadS_n dL_law_294 rfl ?_
      refine wp_iload_n dL_law_295 rfl ?_
      refine wp_iconst dL_law_296 ic_2 ?_
      refine wp_iadd dL_law_297 ?_
      replace k := ok_bind k
      obtain ⟨v_45, e_46, k⟩ := k
      refine wp_scrAt dL_law_298 e_46 ?_
      replace k := ok_bind k
      obtain ⟨u, e_47, k⟩ := k
      refine wp_callV2 (N := M_X10_of) (ci := 10) mf_X10_of mi_X10_of me_X10_of ml_L_23 dL_law_299 (ckO_e e_47) mv_X10_of (by exact Nat.le_of_ble_eq_true rfl) (c_X10_of (Nat.le_trans (by decide) he) (ok_mono (ok_bind2 k) fun z_49 h_48 k => ?_))
      try dsimp only at k
      refine wp_aload_n dL_law_302 rfl ?_
      refine wp_aloadS_n dL_law_303 rfl ?_
      refine wp_iload_n dL_law_304 rfl ?_
      refine wp_iconst dL_law_305 ic_1 ?_
      refine wp_iadd dL_law_306 ?_
      replace k := ok_bind k
      obtain ⟨v_50, e_51, k⟩ := k
      refine wp_scrAt dL_law_307 e_51 ?_
      refine wp_aloadS_n dL_law_308 rfl ?_
      refine wp_iload_n dL_law_309 rfl ?_
      refine wp_iconst dL_law_310 ic_2 ?_
      refine wp_iadd dL_law_311 ?_
      replace k := ok_bind k
      obtain ⟨v_52, e_53, k⟩ := k
      refine wp_scrAt dL_law_312 e_53 ?_
      replace k := ok_bind k
      obtain ⟨u, e_54, k⟩ := k
      refine wp_callV2 (N := M_X11_of) (ci := 11) mf_X11_of mi_X11_of me_X11_of ml_L_26 dL_law_313 (ckO_e e_54) mv_X11_of (by exact Nat.le_of_ble_eq_true rfl) (c_X11_of (Nat.le_trans (by decide) he) (ok_mono (ok_bind2 k) fun z_56 h_55 k => ?_))
      try dsimp only at k
      refine wp_icmp_eq 1276 dL_law_316 (by decide) (fun c_57 => ?_) (fun c_57 => ?_)
      · replace k := ok_t c_57 k
        replace k := ok_lt k
        refine wp_iinc dL_law_1276 rfl ic_6 (by exact Nat.le_of_ble_eq_true rfl) (L1 := [_, _, _, _]) rfl ?_
        refine wp_goto 18 dL_law_1279 (by decide) ?_
        refine wp_bud 3 476 ?_
        exact wp_wk (wkE <| wkE <| wkE <| wkE <| wkN) (hrec _ _ _ _ k)
      · replace k := ok_f c_57 k
        refine wp_iconst dL_law_319 ic_0 ?_
        refine wp_iret rfl rfl dL_law_320 ?_
        exact hret _ _ (ok_some k)
    replace k := ok_f c_42 k
    refine wp_case (3 : Int32) (fun c_59 => ?_) (fun c_59 => ?_)
    · refine wp_tabIn 321 dL_law_33 (by rw [c_59]; decide) (by rw [c_59]; decide) (by rw [c_59]; rfl) (by decide) ?_
      replace k := ok_t c_59 k
      refine wp_aload_n dL_law_321 rfl ?_
      refine wp_aloadS_n dL_law_322 rfl ?_
      refine wp_iload_n dL_law_323 rfl ?_
      refine wp_iconst dL_law_324 ic_1 ?_
      refine wp_iadd dL_law_325 ?_
      replace k := ok_bind k
      obtain ⟨v_60, e_61, k⟩ := k
      refine wp_scrAt dL_law_326 e_61 ?_
      refine wp_aloadS_n dL_law_327 rfl ?_
      refine wp_iload_n dL_law_328 rfl ?_
      refine wp_iconst dL_law_329 ic_2 ?_
      refine wp_iadd dL_law_330 ?_
      replace k := ok_bind k
      obtain ⟨v_62, e_63, k⟩ := k
      refine wp_scrAt dL_law_331 e_63 ?_
      replace k := ok_bind k
      obtain ⟨u, e_64, k⟩ := k
      refine wp_callV2 (N := M_X10_matter) (ci := 10) mf_X10_matter mi_X10_matter me_X10_matter ml_L_27 dL_law_332 (ckO_e e_64) mv_X10_matter (by exact Nat.le_of_ble_eq_true rfl) (c_X10_matter (Nat.le_trans (by decide) he) (ok_mono (ok_bind2 k) fun z_66 h_65 k => ?_))
      try dsimp only at k
      refine wp_aload_n dL_law_335 rfl ?_
      refine wp_aloadS_n dL_law_336 rfl ?_
      refine wp_iload_n dL_law_337 rfl ?_
      refine wp_iconst dL_law_338 ic_1 ?_
      refine wp_iadd dL_law_339 ?_
      replace k := ok_bind k
      obtain ⟨v_67, e_68, k⟩ := k
      refine wp_scrAt dL_law_340 e_68 ?_
      refine wp_aloadS_n dL_law_341 rfl ?_
      refine wp_iload_n dL_law_342 rfl ?_
      refine wp_iconst dL_law_343 ic_2 ?_
      refine wp_iadd dL_law_344 ?_
      replace k := ok_bind k
      obtain ⟨v_69, e_70, k⟩ := k
      refine wp_scrAt dL_law_345 e_70 ?_
      replace k := ok_bind k
      obtain ⟨u, e_71, k⟩ := k
      refine wp_callV2 (N := M_X11_matter) (ci := 11) mf_X11_matter mi_X11_matter me_X11_matter ml_L_30 dL_law_346 (ckO_e e_71) mv_X11_matter (by exact Nat.le_of_ble_eq_true rfl) (c_X11_matter (Nat.le_trans (by decide) he) (ok_mono (ok_bind2 k) fun z_73 h_72 k => ?_))
      try dsimp only at k
      refine wp_icmp_eq 1276 dL_law_349 (by decide) (fun c_74 => ?_) (fun c_74 => ?_)
      · replace k := ok_t c_74 k
        replace k := ok_lt k
        refine wp_iinc dL_law_1276 rfl ic_6 (by exact Nat.le_of_ble_eq_true rfl) (L1 := [_, _, _, _]) rfl ?_
        refine wp_goto 18 dL_law_1279 (by decide) ?_
        refine wp_bud 3 476 ?_
        exact wp_wk (wkE <| wkE <| wkE <| wkE <| wkN) (hrec _ _ _ _ k)
      · replace k := ok_f c_74 k
        refine wp_iconst dL_law_352 ic_0 ?_
        refine wp_iret rfl rfl dL_law_353 ?_
        exact hret _ _ (ok_some k)
    replace k := ok_f c_59 k
    refine wp_case (4 : Int32) (fun c_76 => ?_) (fun c_76 => ?_)
    · refine wp_tabIn 354 dL_law_33 (by rw [c_76]; decide) (by rw [c_76]; decide) (by rw [c_76]; rfl) (by decide) ?_
      replace k := ok_t c_76 k
      refine wp_aload_n dL_law_354 rfl ?_
      refine wp_aloadS_n dL_law_355 rfl ?_
      refine wp_iload_n dL_law_356 rfl ?_
      refine wp_iconst dL_law_357 ic_1 ?_
      refine wp_iadd dL_law_358 ?_
      replace k := ok_bind k
      obtain ⟨v_77, e_78, k⟩ := k
      refine wp_scrAt dL_law_359 e_78 ?_
      refine wp_aloadS_n dL_law_360 rfl ?_
      refine wp_iload_n dL_law_361 rfl ?_
      refine wp_iconst dL_law_362 ic_2 ?_
      refine wp_iadd dL_law_363 ?_
      replace k := ok_bind k
      obtain ⟨v_79, e_80, k⟩ := k
      refine wp_scrAt dL_law_364 e_80 ?_
      replace k := ok_bind k
      obtain ⟨u, e_81, k⟩ := k
      refine wp_callV2 (N := M_X10_at) (ci := 10) mf_X10_at mi_X10_at me_X10_at ml_L_31 dL_law_365 (ckO_e e_81) mv_X10_at (by exact Nat.le_of_ble_eq_true rfl) (c_X10_at (Nat.le_trans (by decide) he) (ok_mono (ok_bind2 k) fun z_83 h_82 k => ?_))
      try dsimp only at k
      refine wp_aload_n dL_law_368 rfl ?_
      refine wp_aloadS_n dL_law_369 rfl ?_
      refine wp_iload_n dL_law_370 rfl ?_
      refine wp_iconst dL_law_371 ic_1 ?_
      refine wp_iadd dL_law_372 ?_
      replace k := ok_bind k
      obtain ⟨v_84, e_85, k⟩ := k
      refine wp_scrAt dL_law_373 e_85 ?_
      refine wp_aloadS_n dL_law_374 rfl ?_
      refine wp_iload_n dL_law_375 rfl ?_
      refine wp_iconst dL_law_376 ic_2 ?_
      refine wp_iadd dL_law_377 ?_
      replace k := ok_bind k
      obtain ⟨v_86, e_87, k⟩ := k
      refine wp_scrAt dL_law_378 e_87 ?_
      replace k := ok_bind k
      obtain ⟨u, e_88, k⟩ := k
      refine wp_callV2 (N := M_X11_at) (ci := 11) mf_X11_at mi_X11_at me_X11_at ml_L_34 dL_law_379 (ckO_e e_88) mv_X11_at (by exact Nat.le_of_ble_eq_true rfl) (c_X11_at (Nat.le_trans (by decide) he) (ok_mono (ok_bind2 k) fun z_90 h_89 k => ?_))
      try dsimp only at k
      refine wp_icmp_eq 1276 dL_law_382 (by decide) (fun c_91 => ?_) (fun c_91 => ?_)
      · replace k := ok_t c_91 k
        replace k := ok_lt k
        refine wp_iinc dL_law_1276 rfl ic_6 (by exact Nat.le_of_ble_eq_true rfl) (L1 := [_, _, _, _]) rfl ?_
        refine wp_goto 18 dL_law_1279 (by decide) ?_
        refine wp_bud 3 476 ?_
        exact wp_wk (wkE <| wkE <| wkE <| wkE <| wkN) (hrec _ _ _ _ k)
      · replace k := ok_f c_91 k
        refine wp_iconst dL_law_385 ic_0 ?_
        refine wp_iret rfl rfl dL_law_386 ?_
        exact hret _ _ (ok_some k)
    replace k := ok_f c_76 k
    refine wp_case (5 : Int32) (fun c_93 => ?_) (fun c_93 => ?_)
    · refine wp_tabIn 387 dL_law_33 (by rw [c_93]; decide) (by rw [c_93]; decide) (by rw [c_93]; rfl) (by decide) ?_
      replace k := ok_t c_93 k
      refine wp_aload_n dL_law_387 rfl ?_
      refine wp_aloadS_n dL_law_388 rfl ?_
      refine wp_iload_n dL_law_389 rfl ?_
      refine wp_iconst dL_law_390 ic_1 ?_
      refine wp_iadd dL_law_391 ?_
      replace k := ok_bind k
      obtain ⟨v_94, e_95, k⟩ := k
      refine wp_scrAt dL_law_392 e_95 ?_
      refine wp_aloadS_n dL_law_393 rfl ?_
      refine wp_iload_n dL_law_394 rfl ?_
      refine wp_iconst dL_law_395 ic_2 ?_
      refine wp_iadd dL_law_396 ?_
      replace k := ok_bind k
      obtain ⟨v_96, e_97, k⟩ := k
      refine wp_scrAt dL_law_397 e_97 ?_
      replace k := ok_bind k
      obtain ⟨u, e_98, k⟩ := k
      refine wp_callV2 (N := M_X10_terms) (ci := 10) mf_X10_terms mi_X10_terms me_X10_terms ml_L_35 dL_law_398 (ckO_e e_98) mv_X10_terms (by exact Nat.le_of_ble_eq_true rfl) (c_X10_terms (Nat.le_trans (by decide) he) (ok_mono (ok_bind2 k) fun z_100 h_99 k => ?_))
      try dsimp only at k
      refine wp_aload_n dL_law_401 rfl ?_
      refine wp_aloadS_n dL_law_402 rfl ?_
      refine wp_iload_n dL_law_403 rfl ?_
      refine wp_iconst dL_law_404 ic_1 ?_
      refine wp_iadd dL_law_405 ?_
      replace k := ok_bind k
      obtain ⟨v_101, e_102, k⟩ := k
      refine wp_scrAt dL_law_406 e_102 ?_
      refine wp_aloadS_n dL_law_407 rfl ?_
      refine wp_iload_n dL_law_408 rfl ?_
      refine wp_iconst dL_law_409 ic_2 ?_
      refine wp_iadd dL_law_410 ?_
      replace k := ok_bind k
      obtain ⟨v_103, e_104, k⟩ := k
      refine wp_scrAt dL_law_411 e_104 ?_
      replace k := ok_bind k
      obtain ⟨u, e_105, k⟩ := k
      refine wp_callV2 (N := M_X11_terms) (ci := 11) mf_X11_terms mi_X11_terms me_X11_terms ml_L_38 dL_law_412 (ckO_e e_105) mv_X11_terms (by exact Nat.le_of_ble_eq_true rfl) (c_X11_terms (Nat.le_trans (by decide) he) (ok_mono (ok_bind2 k) fun z_107 h_106 k => ?_))
      try dsimp only at k
      refine wp_icmp_eq 1276 dL_law_415 (by decide) (fun c_108 => ?_) (fun c_108 => ?_)
      · replace k := ok_t c_108 k
        replace k := ok_lt k
        refine wp_iinc dL_law_1276 rfl ic_6 (by exact Nat.le_of_ble_eq_true rfl) (L1 := [_, _, _, _]) rfl ?_
        refine wp_goto 18 dL_law_1279 (by decide) ?_
        refine wp_bud 3 476 ?_
        exact wp_wk (wkE <| wkE <| wkE <| wkE <| wkN) (hrec _ _ _ _ k)
      · replace k := ok_f c_108 k
        refine wp_iconst dL_law_418 ic_0 ?_
        refine wp_iret rfl rfl dL_law_419 ?_
        exact hret _ _ (ok_some k)
    replace k := ok_f c_93 k
    refine wp_case (6 : Int32) (fun c_110 => ?_) (fun c_110 => ?_)
    · refine wp_tabIn 420 dL_law_33 (by rw [c_110]; decide) (by rw [c_110]; decide) (by rw [c_110]; rfl) (by decide) ?_
      replace k := ok_t c_110 k
      refine wp_aload_n dL_law_420 rfl ?_
      refine wp_aloadS_n dL_law_421 rfl ?_
      refine wp_iload_n dL_law_422 rfl ?_
      refine wp_iconst dL_law_423 ic_1 ?_
      refine wp_iadd dL_law_424 ?_
      replace k := ok_bind k
      obtain ⟨v_111, e_112, k⟩ := k
      refine wp_scrAt dL_law_425 e_112 ?_
      refine wp_aloadS_n dL_law_426 rfl ?_
      refine wp_iload_n dL_law_427 rfl ?_
      refine wp_iconst dL_law_428 ic_2 ?_
      refine wp_iadd dL_law_429 ?_
      replace k := ok_bind k
      obtain ⟨v_113, e_114, k⟩ := k
      refine wp_scrAt dL_law_430 e_114 ?_
      refine wp_aloadS_n dL_law_431 rfl ?_
      refine wp_iload_n dL_law_432 rfl ?_
      refine wp_iconst dL_law_433 ic_3 ?_
      refine wp_iadd dL_law_434 ?_
      replace k := ok_bind k
      obtain ⟨v_115, e_116, k⟩ := k
      refine wp_scrAt dL_law_435 e_116 ?_
      refine wp_aloadS_n dL_law_436 rfl ?_
      refine wp_iload_n dL_law_437 rfl ?_
      refine wp_iconst dL_law_438 ic_4 ?_
      refine wp_iadd dL_law_439 ?_
      replace k := ok_bind k
      obtain ⟨v_117, e_118, k⟩ := k
      refine wp_scrAt dL_law_440 e_118 ?_
      refine wp_aloadS_n dL_law_441 rfl ?_
      refine wp_iload_n dL_law_442 rfl ?_
      refine wp_iconst dL_law_443 ic_5 ?_
      refine wp_iadd dL_law_444 ?_
      replace k := ok_bind k
      obtain ⟨v_119, e_120, k⟩ := k
      refine wp_scrAt dL_law_445 e_120 ?_
      replace k := ok_bind k
      obtain ⟨u, e_121, k⟩ := k
      refine wp_callV5 (N := M_X10_feed) (ci := 10) mf_X10_feed mi_X10_feed me_X10_feed ml_L_39 dL_law_446 (ckO_e e_121) mv_X10_feed (by exact Nat.le_of_ble_eq_true rfl) (c_X10_feed (Nat.le_trans (by decide) he) (ok_mono (ok_bind2 k) fun z_123 h_122 k => ?_))
      try dsimp only at k
      refine wp_aload_n dL_law_449 rfl ?_
      refine wp_aloadS_n dL_law_450 rfl ?_
      refine wp_iload_n dL_law_451 rfl ?_
      refine wp_iconst dL_law_452 ic_1 ?_
      refine wp_iadd dL_law_453 ?_
      replace k := ok_bind k
      obtain ⟨v_124, e_125, k⟩ := k
      refine wp_scrAt dL_law_454 e_125 ?_
      refine wp_aloadS_n dL_law_455 rfl ?_
      refine wp_iload_n dL_law_456 rfl ?_
      refine wp_iconst dL_law_457 ic_2 ?_
      refine wp_iadd dL_law_458 ?_
      replace k := ok_bind k
      obtain ⟨v_126, e_127, k⟩ := k
      refine wp_scrAt dL_law_459 e_127 ?_
      refine wp_aloadS_n dL_law_460 rfl ?_
      refine wp_iload_n dL_law_461 rfl ?_
      refine wp_iconst dL_law_462 ic_3 ?_
      refine wp_iadd dL_law_463 ?_
      replace k := ok_bind k
      obtain ⟨v_128, e_129, k⟩ := k
      refine wp_scrAt dL_law_464 e_129 ?_
      refine wp_aloadS_n dL_law_465 rfl ?_
      refine wp_iload_n dL_law_466 rfl ?_
      refine wp_iconst dL_law_467 ic_4 ?_
      refine wp_iadd dL_law_468 ?_
      replace k := ok_bind k
      obtain ⟨v_130, e_131, k⟩ := k
      refine wp_scrAt dL_law_469 e_131 ?_
      refine wp_aloadS_n dL_law_470 rfl ?_
      refine wp_iload_n dL_law_471 rfl ?_
      refine wp_iconst dL_law_472 ic_5 ?_
      refine wp_iadd dL_law_473 ?_
      replace k := ok_bind k
      obtain ⟨v_132, e_133, k⟩ := k
      refine wp_scrAt dL_law_474 e_133 ?_
      replace k := ok_bind k
      obtain ⟨u, e_134, k⟩ := k
      refine wp_callV5 (N := M_X11_feed) (ci := 11) mf_X11_feed mi_X11_feed me_X11_feed ml_L_43 dL_law_475 (ckO_e e_134) mv_X11_feed (by exact Nat.le_of_ble_eq_true rfl) (c_X11_feed (Nat.le_trans (by decide) he) (ok_mono (ok_bind2 k) fun z_136 h_135 k => ?_))
      try dsimp only at k
      refine wp_icmp_eq 1276 dL_law_478 (by decide) (fun c_137 => ?_) (fun c_137 => ?_)
      · replace k := ok_t c_137 k
        replace k := ok_lt k
        refine wp_iinc dL_law_1276 rfl ic_6 (by exact Nat.le_of_ble_eq_true rfl) (L1 := [_, _, _, _]) rfl ?_
        refine wp_goto 18 dL_law_1279 (by decide) ?_
        refine wp_bud 3 476 ?_
        exact wp_wk (wkE <| wkE <| wkE <| wkE <| wkN) (hrec _ _ _ _ k)
      · replace k := ok_f c_137 k
        refine wp_iconst dL_law_481 ic_0 ?_
        refine wp_iret rfl rfl dL_law_482 ?_
        exact hret _ _ (ok_some k)
    replace k := ok_f c_110 k
    refine wp_case (7 : Int32) (fun c_139 => ?_) (fun c_139 => ?_)
    · refine wp_tabIn 483 dL_law_33 (by rw [c_139]; decide) (by rw [c_139]; decide) (by rw [c_139]; rfl) (by decide) ?_
      replace k := ok_t c_139 k
      refine wp_aload_n dL_law_483 rfl ?_
      refine wp_aloadS_n dL_law_484 rfl ?_
      refine wp_iload_n dL_law_485 rfl ?_
      refine wp_iconst dL_law_486 ic_1 ?_
      refine wp_iadd dL_law_487 ?_
      replace k := ok_bind k
      obtain ⟨v_140, e_141, k⟩ := k
      refine wp_scrAt dL_law_488 e_141 ?_
      replace k := ok_bind k
      obtain ⟨u, e_142, k⟩ := k
      refine wp_callV1 (N := M_X10_end) (ci := 10) mf_X10_end mi_X10_end me_X10_end ml_L_44 dL_law_489 (ckO_e e_142) mv_X10_end (by exact Nat.le_of_ble_eq_true rfl) (c_X10_end (Nat.le_trans (by decide) he) (ok_mono (ok_bind2 k) fun z_144 h_143 k => ?_))
      try dsimp only at k
      refine wp_aload_n dL_law_492 rfl ?_
      refine wp_aloadS_n dL_law_493 rfl ?_
      refine wp_iload_n dL_law_494 rfl ?_
      refine wp_iconst dL_law_495 ic_1 ?_
      refine wp_iadd dL_law_496 ?_
      replace k := ok_bind k
      obtain ⟨v_145, e_146, k⟩ := k
      refine wp_scrAt dL_law_497 e_146 ?_
      replace k := ok_bind k
      obtain ⟨u, e_147, k⟩ := k
      refine wp_callV1 (N := M_X11_end) (ci := 11) mf_X11_end mi_X11_end me_X11_end ml_L_48 dL_law_498 (ckO_e e_147) mv_X11_end (by exact Nat.le_of_ble_eq_true rfl) (c_X11_end (Nat.le_trans (by decide) he) (ok_mono (ok_bind2 k) fun z_149 h_148 k => ?_))
      try dsimp only at k
      refine wp_icmp_eq 1276 dL_law_501 (by decide) (fun c_150 => ?_) (fun c_150 => ?_)
      · replace k := ok_t c_150 k
        replace k := ok_lt k
        refine wp_iinc dL_law_1276 rfl ic_6 (by exact Nat.le_of_ble_eq_true rfl) (L1 := [_, _, _, _]) rfl ?_
        refine wp_goto 18 dL_law_1279 (by decide) ?_
        refine wp_bud 3 476 ?_
        exact wp_wk (wkE <| wkE <| wkE <| wkE <| wkN) (hrec _ _ _ _ k)
      · replace k := ok_f c_150 k
        refine wp_iconst dL_law_504 ic_0 ?_
        refine wp_iret rfl rfl dL_law_505 ?_
        exact hret _ _ (ok_some k)
    replace k := ok_f c_139 k
    refine wp_case (8 : Int32) (fun c_152 => ?_) (fun c_152 => ?_)
    · refine wp_tabIn 506 dL_law_33 (by rw [c_152]; decide) (by rw [c_152]; decide) (by rw [c_152]; rfl) (by decide) ?_
      replace k := ok_t c_152 k
      refine wp_aload_n dL_law_506 rfl ?_
      replace k := ok_bind k
      obtain ⟨u, e_153, k⟩ := k
      refine wp_callV0 (N := M_X10_row) (ci := 10) mf_X10_row mi_X10_row me_X10_row ml_L_49 dL_law_507 (ckO_e e_153) mv_X10_row (by exact Nat.le_of_ble_eq_true rfl) (c_X10_row (Nat.le_trans (by decide) he) (ok_mono (ok_bind2 k) fun z_155 h_154 k => ?_))
      try dsimp only at k
      refine wp_aload_n dL_law_510 rfl ?_
      replace k := ok_bind k
      obtain ⟨u, e_156, k⟩ := k
      refine wp_callV0 (N := M_X11_row) (ci := 11) mf_X11_row mi_X11_row me_X11_row ml_L_53 dL_law_511 (ckO_e e_156) mv_X11_row (by exact Nat.le_of_ble_eq_true rfl) (c_X11_row (Nat.le_trans (by decide) he) (ok_mono (ok_bind2 k) fun z_158 h_157 k => ?_))
      try dsimp only at k
      refine wp_icmp_eq 1276 dL_law_514 (by decide) (fun c_159 => ?_) (fun c_159 => ?_)
      · replace k := ok_t c_159 k
        replace k := ok_lt k
        refine wp_iinc dL_law_1276 rfl ic_6 (by exact Nat.le_of_ble_eq_true rfl) (L1 := [_, _, _, _]) rfl ?_
        refine wp_goto 18 dL_law_1279 (by decide) ?_
        refine wp_bud 3 476 ?_
        exact wp_wk (wkE <| wkE <| wkE <| wkE <| wkN) (hrec _ _ _ _ k)
      · replace k := ok_f c_159 k
        refine wp_iconst dL_law_517 ic_0 ?_
        refine wp_iret rfl rfl dL_law_518 ?_
        exact hret _ _ (ok_some k)
    replace k := ok_f c_152 k
    refine wp_case (9 : Int32) (fun c_161 => ?_) (fun c_161 => ?_)
    · refine wp_tabIn 519 dL_law_33 (by rw [c_161]; decide) (by rw [c_161]; decide) (by rw [c_161]; rfl) (by decide) ?_
      replace k := ok_t c_161 k
      refine wp_aload_n dL_law_519 rfl ?_
      replace k := ok_bind k
      obtain ⟨u, e_162, k⟩ := k
      refine wp_callV0 (N := M_X10_cats) (ci := 10) mf_X10_cats mi_X10_cats me_X10_cats ml_L_54 dL_law_520 (ckO_e e_162) mv_X10_cats (by exact Nat.le_of_ble_eq_true rfl) (c_X10_cats (Nat.le_trans (by decide) he) (ok_mono (ok_bind2 k) fun z_164 h_163 k => ?_))
      try dsimp only at k
      refine wp_aload_n dL_law_523 rfl ?_
      replace k := ok_bind k
      obtain ⟨u, e_165, k⟩ := k
      refine wp_callV0 (N := M_X11_cats) (ci := 11) mf_X11_cats mi_X11_cats me_X11_cats ml_L_57 dL_law_524 (ckO_e e_165) mv_X11_cats (by exact Nat.le_of_ble_eq_true rfl) (c_X11_cats (Nat.le_trans (by decide) he) (ok_mono (ok_bind2 k) fun z_167 h_166 k => ?_))
      try dsimp only at k
      refine wp_icmp_eq 1276 dL_law_527 (by decide) (fun c_168 => ?_) (fun c_168 => ?_)
      · replace k := ok_t c_168 k
        replace k := ok_lt k
        refine wp_iinc dL_law_1276 rfl ic_6 (by exact Nat.le_of_ble_eq_true rfl) (L1 := [_, _, _, _]) rfl ?_
        refine wp_goto 18 dL_law_1279 (by decide) ?_
        refine wp_bud 3 476 ?_
        exact wp_wk (wkE <| wkE <| wkE <| wkE <| wkN) (hrec _ _ _ _ k)
      · replace k := ok_f c_168 k
        refine wp_iconst dL_law_530 ic_0 ?_
        refine wp_iret rfl rfl dL_law_531 ?_
        exact hret _ _ (ok_some k)
    replace k := ok_f c_161 k
    refine wp_case (10 : Int32) (fun c_170 => ?_) (fun c_170 => ?_)
    · refine wp_tabIn 532 dL_law_33 (by rw [c_170]; decide) (by rw [c_170]; decide) (by rw [c_170]; rfl) (by decide) ?_
      replace k := ok_t c_170 k
      refine wp_aload_n dL_law_532 rfl ?_
      replace k := ok_bind k
      obtain ⟨u, e_173, k⟩ := k
      refine wp_callVA0 (N := M_X10_law) (ci := 10) (cb := cb) (sb := sb) mf_X10_law mi_X10_law me_X10_law ml_L_58 dL_law_533 (ckO_e e_173) mv_X10_law (by exact Nat.le_of_ble_eq_true rfl) (c_X10_law (Nat.le_trans (by decide) he) (ok_mono (ok_bind2 k) fun z_172 h_171 k => ?_))
      try dsimp only at k
      refine wp_aload_n dL_law_536 rfl ?_
      replace k := ok_bind k
      obtain ⟨u, e_174, k⟩ := k
      refine wp_callV0 (N := M_X11_law) (ci := 11) mf_X11_law mi_X11_law me_X11_law ml_L_61 dL_law_537 (ckO_e e_174) mv_X11_law (by exact Nat.le_of_ble_eq_true rfl) (c_X11_law (Nat.le_trans (by decide) he) (ok_mono (ok_bind2 k) fun z_176 h_175 k => ?_))
      try dsimp only at k
      refine wp_icmp_eq 1276 dL_law_540 (by decide) (fun c_177 => ?_) (fun c_177 => ?_)
      · replace k := ok_t c_177 k
        replace k := ok_lt k
        refine wp_iinc dL_law_1276 rfl ic_6 (by exact Nat.le_of_ble_eq_true rfl) (L1 := [_, _, _, _]) rfl ?_
        refine wp_goto 18 dL_law_1279 (by decide) ?_
        exact wp_wk (wkE <| wkE <| wkE <| wkE <| wkN) (hrec _ _ _ _ k)
      · replace k := ok_f c_177 k
        refine wp_iconst dL_law_543 ic_0 ?_
        refine wp_iret rfl rfl dL_law_544 ?_
        exact hret _ _ (ok_some k)
    replace k := ok_f c_170 k
    refine wp_case (11 : Int32) (fun c_179 => ?_) (fun c_179 => ?_)
    · refine wp_tabIn 545 dL_law_33 (by rw [c_179]; decide) (by rw [c_179]; decide) (by rw [c_179]; rfl) (by decide) ?_
      replace k := ok_t c_179 k
      refine wp_aload_n dL_law_545 rfl ?_
      replace k := ok_bind k
      obtain ⟨u, e_180, k⟩ := k
      refine wp_callV0 (N := M_X10_orders) (ci := 10) mf_X10_orders mi_X10_orders me_X10_orders ml_L_62 dL_law_546 (ckO_e e_180) mv_X10_orders (by exact Nat.le_of_ble_eq_true rfl) (c_X10_orders (Nat.le_trans (by decide) he) (ok_mono (ok_bind2 k) fun z_182 h_181 k => ?_))
      try dsimp only at k
      refine wp_aload_n dL_law_549 rfl ?_
      replace k := ok_bind k
      obtain ⟨u, e_183, k⟩ := k
      refine wp_callV0 (N := M_X11_orders) (ci := 11) mf_X11_orders mi_X11_orders me_X11_orders ml_L_65 dL_law_550 (ckO_e e_183) mv_X11_orders (by exact Nat.le_of_ble_eq_true rfl) (c_X11_orders (Nat.le_trans (by decide) he) (ok_mono (ok_bind2 k) fun z_185 h_184 k => ?_))
      try dsimp only at k
      refine wp_icmp_eq 1276 dL_law_553 (by decide) (fun c_186 => ?_) (fun c_186 => ?_)
      · replace k := ok_t c_186 k
        replace k := ok_lt k
        refine wp_iinc dL_law_1276 rfl ic_6 (by exact Nat.le_of_ble_eq_true rfl) (L1 := [_, _, _, _]) rfl ?_
        refine wp_goto 18 dL_law_1279 (by decide) ?_
        refine wp_bud 3 476 ?_
        exact wp_wk (wkE <| wkE <| wkE <| wkE <| wkN) (hrec _ _ _ _ k)
      · replace k := ok_f c_186 k
        refine wp_iconst dL_law_556 ic_0 ?_
        refine wp_iret rfl rfl dL_law_557 ?_
        exact hret _ _ (ok_some k)
    replace k := ok_f c_179 k
    refine wp_case (12 : Int32) (fun c_188 => ?_) (fun c_188 => ?_)
    · refine wp_tabIn 558 dL_law_33 (by rw [c_188]; decide) (by rw [c_188]; decide) (by rw [c_188]; rfl) (by decide) ?_
      replace k := ok_t c_188 k
      refine wp_aload_n dL_law_558 rfl ?_
      replace k := ok_bind k
      obtain ⟨u, e_189, k⟩ := k
      refine wp_callV0 (N := M_X10_fault) (ci := 10) mf_X10_fault mi_X10_fault me_X10_fault ml_L_66 dL_law_559 (ckO_e e_189) mv_X10_fault (by exact Nat.le_of_ble_eq_true rfl) (c_X10_fault (Nat.le_trans (by decide) he) (ok_mono (ok_bind2 k) fun z_191 h_190 k => ?_))
      try dsimp only at k
      refine wp_aload_n dL_law_562 rfl ?_
      replace k := ok_bind k
      obtain ⟨u, e_192, k⟩ := k
      refine wp_callV0 (N := M_X11_fault) (ci := 11) mf_X11_fault mi_X11_fault me_X11_fault ml_L_69 dL_law_563 (ckO_e e_192) mv_X11_fault (by exact Nat.le_of_ble_eq_true rfl) (c_X11_fault (Nat.le_trans (by decide) he) (ok_mono (ok_bind2 k) fun z_194 h_193 k => ?_))
      try dsimp only at k
      refine wp_icmp_eq 1276 dL_law_566 (by decide) (fun c_195 => ?_) (fun c_195 => ?_)
      · replace k := ok_t c_195 k
        replace k := ok_lt k
        refine wp_iinc dL_law_1276 rfl ic_6 (by exact Nat.le_of_ble_eq_true rfl) (L1 := [_, _, _, _]) rfl ?_
        refine wp_goto 18 dL_law_1279 (by decide) ?_
        refine wp_bud 3 476 ?_
        exact wp_wk (wkE <| wkE <| wkE <| wkE <| wkN) (hrec _ _ _ _ k)
      · replace k := ok_f c_195 k
        refine wp_iconst dL_law_569 ic_0 ?_
        refine wp_iret rfl rfl dL_law_570 ?_
        exact hret _ _ (ok_some k)
    replace k := ok_f c_188 k
    refine wp_case (13 : Int32) (fun c_197 => ?_) (fun c_197 => ?_)
    · refine wp_tabIn 571 dL_law_33 (by rw [c_197]; decide) (by rw [c_197]; decide) (by rw [c_197]; rfl) (by decide) ?_
      replace k := ok_t c_197 k
      refine wp_aload_n dL_law_571 rfl ?_
      replace k := ok_bind k
      obtain ⟨u, e_198, k⟩ := k
      refine wp_callV0 (N := M_X10_stopped) (ci := 10) mf_X10_stopped mi_X10_stopped me_X10_stopped ml_L_70 dL_law_572 (ckO_e e_198) mv_X10_stopped (by exact Nat.le_of_ble_eq_true rfl) (c_X10_stopped (Nat.le_trans (by decide) he) (ok_mono (ok_bind2 k) fun z_200 h_199 k => ?_))
      try dsimp only at k
      refine wp_aload_n dL_law_575 rfl ?_
      replace k := ok_bind k
      obtain ⟨u, e_201, k⟩ := k
      refine wp_callV0 (N := M_X11_stopped) (ci := 11) mf_X11_stopped mi_X11_stopped me_X11_stopped ml_L_73 dL_law_576 (ckO_e e_201) mv_X11_stopped (by exact Nat.le_of_ble_eq_true rfl) (c_X11_stopped (Nat.le_trans (by decide) he) (ok_mono (ok_bind2 k) fun z_203 h_202 k => ?_))
      try dsimp only at k
      refine wp_icmp_eq 1276 dL_law_579 (by decide) (fun c_204 => ?_) (fun c_204 => ?_)
      · replace k := ok_t c_204 k
        replace k := ok_lt k
        refine wp_iinc dL_law_1276 rfl ic_6 (by exact Nat.le_of_ble_eq_true rfl) (L1 := [_, _, _, _]) rfl ?_
        refine wp_goto 18 dL_law_1279 (by decide) ?_
        refine wp_bud 3 476 ?_
        exact wp_wk (wkE <| wkE <| wkE <| wkE <| wkN) (hrec _ _ _ _ k)
      · replace k := ok_f c_204 k
        refine wp_iconst dL_law_582 ic_0 ?_
        refine wp_iret rfl rfl dL_law_583 ?_
        exact hret _ _ (ok_some k)
    replace k := ok_f c_197 k
    refine wp_case (14 : Int32) (fun c_206 => ?_) (fun c_206 => ?_)
    · refine wp_tabIn 584 dL_law_33 (by rw [c_206]; decide) (by rw [c_206]; decide) (by rw [c_206]; rfl) (by decide) ?_
      replace k := ok_t c_206 k
      refine wp_aload_n dL_law_584 rfl ?_
      refine wp_aloadS_n dL_law_585 rfl ?_
      refine wp_iload_n dL_law_586 rfl ?_
      refine wp_iconst dL_law_587 ic_1 ?_
      refine wp_iadd dL_law_588 ?_
      replace k := ok_bind k
      obtain ⟨v_207, e_208, k⟩ := k
      refine wp_scrAt dL_law_589 e_208 ?_
      replace k := ok_bind k
      obtain ⟨u, e_209, k⟩ := k
      refine wp_callV1 (N := M_X10_force) (ci := 10) mf_X10_force mi_X10_force me_X10_force ml_L_74 dL_law_590 (ckO_e e_209) mv_X10_force (by exact Nat.le_of_ble_eq_true rfl) (c_X10_force (Nat.le_trans (by decide) he) (ok_mono (ok_bind2 k) fun z_211 h_210 k => ?_))
      try dsimp only at k
      refine wp_aload_n dL_law_593 rfl ?_
      refine wp_aloadS_n dL_law_594 rfl ?_
      refine wp_iload_n dL_law_595 rfl ?_
      refine wp_iconst dL_law_596 ic_1 ?_
      refine wp_iadd dL_law_597 ?_
      replace k := ok_bind k
      obtain ⟨v_212, e_213, k⟩ := k
      refine wp_scrAt dL_law_598 e_213 ?_
      replace k := ok_bind k
      obtain ⟨u, e_214, k⟩ := k
      refine wp_callV1 (N := M_X11_force) (ci := 11) mf_X11_force mi_X11_force me_X11_force ml_L_77 dL_law_599 (ckO_e e_214) mv_X11_force (by exact Nat.le_of_ble_eq_true rfl) (c_X11_force (Nat.le_trans (by decide) he) (ok_mono (ok_bind2 k) fun z_216 h_215 k => ?_))
      try dsimp only at k
      refine wp_icmp_eq 1276 dL_law_602 (by decide) (fun c_217 => ?_) (fun c_217 => ?_)
      · replace k := ok_t c_217 k
        replace k := ok_lt k
        refine wp_iinc dL_law_1276 rfl ic_6 (by exact Nat.le_of_ble_eq_true rfl) (L1 := [_, _, _, _]) rfl ?_
        refine wp_goto 18 dL_law_1279 (by decide) ?_
        refine wp_bud 3 476 ?_
        exact wp_wk (wkE <| wkE <| wkE <| wkE <| wkN) (hrec _ _ _ _ k)
      · replace k := ok_f c_217 k
        refine wp_iconst dL_law_605 ic_0 ?_
        refine wp_iret rfl rfl dL_law_606 ?_
        exact hret _ _ (ok_some k)
    replace k := ok_f c_206 k
    refine wp_case (15 : Int32) (fun c_219 => ?_) (fun c_219 => ?_)
    · refine wp_tabIn 607 dL_law_33 (by rw [c_219]; decide) (by rw [c_219]; decide) (by rw [c_219]; rfl) (by decide) ?_
      replace k := ok_t c_219 k
      refine wp_aload_n dL_law_607 rfl ?_
      refine wp_aloadS_n dL_law_608 rfl ?_
      refine wp_iload_n dL_law_609 rfl ?_
      refine wp_iconst dL_law_610 ic_1 ?_
      refine wp_iadd dL_law_611 ?_
      replace k := ok_bind k
      obtain ⟨v_220, e_221, k⟩ := k
      refine wp_scrAt dL_law_612 e_221 ?_
      refine wp_aloadS_n dL_law_613 rfl ?_
      refine wp_iload_n dL_law_614 rfl ?_
      refine wp_iconst dL_law_615 ic_2 ?_
      refine wp_iadd dL_law_616 ?_
      replace k := ok_bind k
      obtain ⟨v_222, e_223, k⟩ := k
      refine wp_scrAt dL_law_617 e_223 ?_
      replace k := ok_bind k
      obtain ⟨u, e_224, k⟩ := k
      refine wp_callV2 (N := M_X10_move) (ci := 10) mf_X10_move mi_X10_move me_X10_move ml_L_78 dL_law_618 (ckO_e e_224) mv_X10_move (by exact Nat.le_of_ble_eq_true rfl) (c_X10_move (Nat.le_trans (by decide) he) (ok_mono (ok_bind2 k) fun z_226 h_225 k => ?_))
      try dsimp only at k
      refine wp_aload_n dL_law_621 rfl ?_
      refine wp_aloadS_n dL_law_622 rfl ?_
      refine wp_iload_n dL_law_623 rfl ?_
      refine wp_iconst dL_law_624 ic_1 ?_
      refine wp_iadd dL_law_625 ?_
      replace k := ok_bind k
      obtain ⟨v_227, e_228, k⟩ := k
      refine wp_scrAt dL_law_626 e_228 ?_
      refine wp_aloadS_n dL_law_627 rfl ?_
      refine wp_iload_n dL_law_628 rfl ?_
      refine wp_iconst dL_law_629 ic_2 ?_
      refine wp_iadd dL_law_630 ?_
      replace k := ok_bind k
      obtain ⟨v_229, e_230, k⟩ := k
      refine wp_scrAt dL_law_631 e_230 ?_
      replace k := ok_bind k
      obtain ⟨u, e_231, k⟩ := k
      refine wp_callV2 (N := M_X11_move) (ci := 11) mf_X11_move mi_X11_move me_X11_move ml_L_81 dL_law_632 (ckO_e e_231) mv_X11_move (by exact Nat.le_of_ble_eq_true rfl) (c_X11_move (Nat.le_trans (by decide) he) (ok_mono (ok_bind2 k) fun z_233 h_232 k => ?_))
      try dsimp only at k
      refine wp_icmp_eq 1276 dL_law_635 (by decide) (fun c_234 => ?_) (fun c_234 => ?_)
      · replace k := ok_t c_234 k
        replace k := ok_lt k
        refine wp_iinc dL_law_1276 rfl ic_6 (by exact Nat.le_of_ble_eq_true rfl) (L1 := [_, _, _, _]) rfl ?_
        refine wp_goto 18 dL_law_1279 (by decide) ?_
        refine wp_bud 3 476 ?_
        exact wp_wk (wkE <| wkE <| wkE <| wkE <| wkN) (hrec _ _ _ _ k)
      · replace k := ok_f c_234 k
        refine wp_iconst dL_law_638 ic_0 ?_
        refine wp_iret rfl rfl dL_law_639 ?_
        exact hret _ _ (ok_some k)
    replace k := ok_f c_219 k
    refine wp_case (16 : Int32) (fun c_236 => ?_) (fun c_236 => ?_)
    · refine wp_tabIn 640 dL_law_33 (by rw [c_236]; decide) (by rw [c_236]; decide) (by rw [c_236]; rfl) (by decide) ?_
      replace k := ok_t c_236 k
      refine wp_aload_n dL_law_640 rfl ?_
      refine wp_aloadS_n dL_law_641 rfl ?_
      refine wp_iload_n dL_law_642 rfl ?_
      refine wp_iconst dL_law_643 ic_1 ?_
      refine wp_iadd dL_law_644 ?_
      replace k := ok_bind k
      obtain ⟨v_237, e_238, k⟩ := k
      refine wp_scrAt dL_law_645 e_238 ?_
      replace k := ok_bind k
      obtain ⟨u, e_239, k⟩ := k
      refine wp_callV1 (N := M_X10_divide) (ci := 10) mf_X10_divide mi_X10_divide me_X10_divide ml_L_82 dL_law_646 (ckO_e e_239) mv_X10_divide (by exact Nat.le_of_ble_eq_true rfl) (c_X10_divide (Nat.le_trans (by decide) he) (ok_mono (ok_bind2 k) fun z_241 h_240 k => ?_))
      try dsimp only at k
      refine wp_aload_n dL_law_649 rfl ?_
      refine wp_aloadS_n dL_law_650 rfl ?_
      refine wp_iload_n dL_law_651 rfl ?_
      refine wp_iconst dL_law_652 ic_1 ?_
      refine wp_iadd dL_law_653 ?_
      replace k := ok_bind k
      obtain ⟨v_242, e_243, k⟩ := k
      refine wp_scrAt dL_law_654 e_243 ?_
      replace k := ok_bind k
      obtain ⟨u, e_244, k⟩ := k
      refine wp_callV1 (N := M_X11_divide) (ci := 11) mf_X11_divide mi_X11_divide me_X11_divide ml_L_85 dL_law_655 (ckO_e e_244) mv_X11_divide (by exact Nat.le_of_ble_eq_true rfl) (c_X11_divide (Nat.le_trans (by decide) he) (ok_mono (ok_bind2 k) fun z_246 h_245 k => ?_))
      try dsimp only at k
      refine wp_icmp_eq 1276 dL_law_658 (by decide) (fun c_247 => ?_) (fun c_247 => ?_)
      · replace k := ok_t c_247 k
        replace k := ok_lt k
        refine wp_iinc dL_law_1276 rfl ic_6 (by exact Nat.le_of_ble_eq_true rfl) (L1 := [_, _, _, _]) rfl ?_
        refine wp_goto 18 dL_law_1279 (by decide) ?_
        refine wp_bud 3 476 ?_
        exact wp_wk (wkE <| wkE <| wkE <| wkE <| wkN) (hrec _ _ _ _ k)
      · replace k := ok_f c_247 k
        refine wp_iconst dL_law_661 ic_0 ?_
        refine wp_iret rfl rfl dL_law_662 ?_
        exact hret _ _ (ok_some k)
    replace k := ok_f c_236 k
    refine wp_case (17 : Int32) (fun c_249 => ?_) (fun c_249 => ?_)
    · refine wp_tabIn 663 dL_law_33 (by rw [c_249]; decide) (by rw [c_249]; decide) (by rw [c_249]; rfl) (by decide) ?_
      replace k := ok_t c_249 k
      refine wp_aload_n dL_law_663 rfl ?_
      refine wp_aloadS_n dL_law_664 rfl ?_
      refine wp_iload_n dL_law_665 rfl ?_
      refine wp_iconst dL_law_666 ic_1 ?_
      refine wp_iadd dL_law_667 ?_
      replace k := ok_bind k
      obtain ⟨v_250, e_251, k⟩ := k
      refine wp_scrAt dL_law_668 e_251 ?_
      refine wp_aloadS_n dL_law_669 rfl ?_
      refine wp_iload_n dL_law_670 rfl ?_
      refine wp_iconst dL_law_671 ic_2 ?_
      refine wp_iadd dL_law_672 ?_
      replace k := ok_bind k
      obtain ⟨v_252, e_253, k⟩ := k
      refine wp_scrAt dL_law_673 e_253 ?_
      replace k := ok_bind k
      obtain ⟨u, e_254, k⟩ := k
      refine wp_callV2 (N := M_X10_fly) (ci := 10) mf_X10_fly mi_X10_fly me_X10_fly ml_L_86 dL_law_674 (ckO_e e_254) mv_X10_fly (by exact Nat.le_of_ble_eq_true rfl) (c_X10_fly (Nat.le_trans (by decide) he) (ok_mono (ok_bind2 k) fun z_256 h_255 k => ?_))
      try dsimp only at k
      refine wp_aload_n dL_law_677 rfl ?_
      refine wp_aloadS_n dL_law_678 rfl ?_
      refine wp_iload_n dL_law_679 rfl ?_
      refine wp_iconst dL_law_680 ic_1 ?_
      refine wp_iadd dL_law_681 ?_
      replace k := ok_bind k
      obtain ⟨v_257, e_258, k⟩ := k
      refine wp_scrAt dL_law_682 e_258 ?_
      refine wp_aloadS_n dL_law_683 rfl ?_
      refine wp_iload_n dL_law_684 rfl ?_
      refine wp_iconst dL_law_685 ic_2 ?_
      refine wp_iadd dL_law_686 ?_
      replace k := ok_bind k
      obtain ⟨v_259, e_260, k⟩ := k
      refine wp_scrAt dL_law_687 e_260 ?_
      replace k := ok_bind k
      obtain ⟨u, e_261, k⟩ := k
      refine wp_callV2 (N := M_X11_fly) (ci := 11) mf_X11_fly mi_X11_fly me_X11_fly ml_L_89 dL_law_688 (ckO_e e_261) mv_X11_fly (by exact Nat.le_of_ble_eq_true rfl) (c_X11_fly (Nat.le_trans (by decide) he) (ok_mono (ok_bind2 k) fun z_263 h_262 k => ?_))
      try dsimp only at k
      refine wp_icmp_eq 1276 dL_law_691 (by decide) (fun c_264 => ?_) (fun c_264 => ?_)
      · replace k := ok_t c_264 k
        replace k := ok_lt k
        refine wp_iinc dL_law_1276 rfl ic_6 (by exact Nat.le_of_ble_eq_true rfl) (L1 := [_, _, _, _]) rfl ?_
        refine wp_goto 18 dL_law_1279 (by decide) ?_
        refine wp_bud 3 476 ?_
        exact wp_wk (wkE <| wkE <| wkE <| wkE <| wkN) (hrec _ _ _ _ k)
      · replace k := ok_f c_264 k
        refine wp_iconst dL_law_694 ic_0 ?_
        refine wp_iret rfl rfl dL_law_695 ?_
        exact hret _ _ (ok_some k)
    replace k := ok_f c_249 k
    refine wp_case (18 : Int32) (fun c_266 => ?_) (fun c_266 => ?_)
    · refine wp_tabIn 696 dL_law_33 (by rw [c_266]; decide) (by rw [c_266]; decide) (by rw [c_266]; rfl) (by decide) ?_
      replace k := ok_t c_266 k
      refine wp_aload_n dL_law_696 rfl ?_
      replace k := ok_bind k
      obtain ⟨u, e_267, k⟩ := k
      refine wp_callV0 (N := M_X10_pass) (ci := 10) mf_X10_pass mi_X10_pass me_X10_pass ml_L_90 dL_law_697 (ckO_e e_267) mv_X10_pass (by exact Nat.le_of_ble_eq_true rfl) (c_X10_pass (Nat.le_trans (by decide) he) (ok_mono (ok_bind2 k) fun z_269 h_268 k => ?_))
      try dsimp only at k
      refine wp_aload_n dL_law_700 rfl ?_
      replace k := ok_bind k
      obtain ⟨u, e_270, k⟩ := k
      refine wp_callV0 (N := M_X11_pass) (ci := 11) mf_X11_pass mi_X11_pass me_X11_pass ml_L_93 dL_law_701 (ckO_e e_270) mv_X11_pass (by exact Nat.le_of_ble_eq_true rfl) (c_X11_pass (Nat.le_trans (by decide) he) (ok_mono (ok_bind2 k) fun z_272 h_271 k => ?_))
      try dsimp only at k
      refine wp_icmp_eq 1276 dL_law_704 (by decide) (fun c_273 => ?_) (fun c_273 => ?_)
      · replace k := ok_t c_273 k
        replace k := ok_lt k
        refine wp_iinc dL_law_1276 rfl ic_6 (by exact Nat.le_of_ble_eq_true rfl) (L1 := [_, _, _, _]) rfl ?_
        refine wp_goto 18 dL_law_1279 (by decide) ?_
        refine wp_bud 3 476 ?_
        exact wp_wk (wkE <| wkE <| wkE <| wkE <| wkN) (hrec _ _ _ _ k)
      · replace k := ok_f c_273 k
        refine wp_iconst dL_law_707 ic_0 ?_
        refine wp_iret rfl rfl dL_law_708 ?_
        exact hret _ _ (ok_some k)
    replace k := ok_f c_266 k
    refine wp_case (19 : Int32) (fun c_275 => ?_) (fun c_275 => ?_)
    · refine wp_tabIn 709 dL_law_33 (by rw [c_275]; decide) (by rw [c_275]; decide) (by rw [c_275]; rfl) (by decide) ?_
      replace k := ok_t c_275 k
      refine wp_aload_n dL_law_709 rfl ?_
      replace k := ok_bind k
      obtain ⟨u, e_276, k⟩ := k
      refine wp_callV0 (N := M_X10_undo) (ci := 10) mf_X10_undo mi_X10_undo me_X10_undo ml_L_94 dL_law_710 (ckO_e e_276) mv_X10_undo (by exact Nat.le_of_ble_eq_true rfl) (c_X10_undo (Nat.le_trans (by decide) he) (ok_mono (ok_bind2 k) fun z_278 h_277 k => ?_))
      try dsimp only at k
      refine wp_aload_n dL_law_713 rfl ?_
      replace k := ok_bind k
      obtain ⟨u, e_279, k⟩ := k
      refine wp_callV0 (N := M_X11_undo) (ci := 11) mf_X11_undo mi_X11_undo me_X11_undo ml_L_97 dL_law_714 (ckO_e e_279) mv_X11_undo (by exact Nat.le_of_ble_eq_true rfl) (c_X11_undo (Nat.le_trans (by decide) he) (ok_mono (ok_bind2 k) fun z_281 h_280 k => ?_))
      try dsimp only at k
      refine wp_icmp_eq 1276 dL_law_717 (by decide) (fun c_282 => ?_) (fun c_282 => ?_)
      · replace k := ok_t c_282 k
        replace k := ok_lt k
        refine wp_iinc dL_law_1276 rfl ic_6 (by exact Nat.le_of_ble_eq_true rfl) (L1 := [_, _, _, _]) rfl ?_
        refine wp_goto 18 dL_law_1279 (by decide) ?_
        refine wp_bud 3 476 ?_
        exact wp_wk (wkE <| wkE <| wkE <| wkE <| wkN) (hrec _ _ _ _ k)
      · replace k := ok_f c_282 k
        refine wp_iconst dL_law_720 ic_0 ?_
        refine wp_iret rfl rfl dL_law_721 ?_
        exact hret _ _ (ok_some k)
    replace k := ok_f c_275 k
    refine wp_case (20 : Int32) (fun c_284 => ?_) (fun c_284 => ?_)
    · refine wp_tabIn 722 dL_law_33 (by rw [c_284]; decide) (by rw [c_284]; decide) (by rw [c_284]; rfl) (by decide) ?_
      replace k := ok_t c_284 k
      refine wp_aload_n dL_law_722 rfl ?_
      refine wp_aloadS_n dL_law_723 rfl ?_
      refine wp_iload_n dL_law_724 rfl ?_
      refine wp_iconst dL_law_725 ic_1 ?_
      refine wp_iadd dL_law_726 ?_
      replace k := ok_bind k
      obtain ⟨v_285, e_286, k⟩ := k
      refine wp_scrAt dL_law_727 e_286 ?_
      refine wp_aloadS_n dL_law_728 rfl ?_
      refine wp_iload_n dL_law_729 rfl ?_
      refine wp_iconst dL_law_730 ic_2 ?_
      refine wp_iadd dL_law_731 ?_
      replace k := ok_bind k
      obtain ⟨v_287, e_288, k⟩ := k
      refine wp_scrAt dL_law_732 e_288 ?_
      replace k := ok_bind k
      obtain ⟨u, e_289, k⟩ := k
      refine wp_callV2 (N := M_X10_second) (ci := 10) mf_X10_second mi_X10_second me_X10_second ml_L_98 dL_law_733 (ckO_e e_289) mv_X10_second (by exact Nat.le_of_ble_eq_true rfl) (c_X10_second (Nat.le_trans (by decide) he) (ok_mono (ok_bind2 k) fun z_291 h_290 k => ?_))
      try dsimp only at k
      refine wp_aload_n dL_law_736 rfl ?_
      refine wp_aloadS_n dL_law_737 rfl ?_
      refine wp_iload_n dL_law_738 rfl ?_
      refine wp_iconst dL_law_739 ic_1 ?_
      refine wp_iadd dL_law_740 ?_
      replace k := ok_bind k
      obtain ⟨v_292, e_293, k⟩ := k
      refine wp_scrAt dL_law_741 e_293 ?_
      refine wp_aloadS_n dL_law_742 rfl ?_
      refine wp_iload_n dL_law_743 rfl ?_
      refine wp_iconst dL_law_744 ic_2 ?_
      refine wp_iadd dL_law_745 ?_
      replace k := ok_bind k
      obtain ⟨v_294, e_295, k⟩ := k
      refine wp_scrAt dL_law_746 e_295 ?_
      replace k := ok_bind k
      obtain ⟨u, e_296, k⟩ := k
      refine wp_callV2 (N := M_X11_second) (ci := 11) mf_X11_second mi_X11_second me_X11_second ml_L_101 dL_law_747 (ckO_e e_296) mv_X11_second (by exact Nat.le_of_ble_eq_true rfl) (c_X11_second (Nat.le_trans (by decide) he) (ok_mono (ok_bind2 k) fun z_298 h_297 k => ?_))
      try dsimp only at k
      refine wp_icmp_eq 1276 dL_law_750 (by decide) (fun c_299 => ?_) (fun c_299 => ?_)
      · replace k := ok_t c_299 k
        replace k := ok_lt k
        refine wp_iinc dL_law_1276 rfl ic_6 (by exact Nat.le_of_ble_eq_true rfl) (L1 := [_, _, _, _]) rfl ?_
        refine wp_goto 18 dL_law_1279 (by decide) ?_
        refine wp_bud 3 476 ?_
        exact wp_wk (wkE <| wkE <| wkE <| wkE <| wkN) (hrec _ _ _ _ k)
      · replace k := ok_f c_299 k
        refine wp_iconst dL_law_753 ic_0 ?_
        refine wp_iret rfl rfl dL_law_754 ?_
        exact hret _ _ (ok_some k)
    replace k := ok_f c_284 k
    refine wp_case (21 : Int32) (fun c_301 => ?_) (fun c_301 => ?_)
    · refine wp_tabIn 755 dL_law_33 (by rw [c_301]; decide) (by rw [c_301]; decide) (by rw [c_301]; rfl) (by decide) ?_
      replace k := ok_t c_301 k
      refine wp_aload_n dL_law_755 rfl ?_
      refine wp_aloadS_n dL_law_756 rfl ?_
      refine wp_iload_n dL_law_757 rfl ?_
      refine wp_iconst dL_law_758 ic_1 ?_
      refine wp_iadd dL_law_759 ?_
      replace k := ok_bind k
      obtain ⟨v_302, e_303, k⟩ := k
      refine wp_scrAt dL_law_760 e_303 ?_
      replace k := ok_bind k
      obtain ⟨u, e_304, k⟩ := k
      refine wp_callV1 (N := M_X10_richest) (ci := 10) mf_X10_richest mi_X10_richest me_X10_richest ml_L_102 dL_law_761 (ckO_e e_304) mv_X10_richest (by exact Nat.le_of_ble_eq_true rfl) (c_X10_richest (Nat.le_trans (by decide) he) (ok_mono (ok_bind2 k) fun z_306 h_305 k => ?_))
      try dsimp only at k
      refine wp_aload_n dL_law_764 rfl ?_
      refine wp_aloadS_n dL_law_765 rfl ?_
      refine wp_iload_n dL_law_766 rfl ?_
      refine wp_iconst dL_law_767 ic_1 ?_
      refine wp_iadd dL_law_768 ?_
      replace k := ok_bind k
      obtain ⟨v_307, e_308, k⟩ := k
      refine wp_scrAt dL_law_769 e_308 ?_
      replace k := ok_bind k
      obtain ⟨u, e_309, k⟩ := k
      refine wp_callV1 (N := M_X11_richest) (ci := 11) mf_X11_richest mi_X11_richest me_X11_richest ml_L_105 dL_law_770 (ckO_e e_309) mv_X11_richest (by exact Nat.le_of_ble_eq_true rfl) (c_X11_richest (Nat.le_trans (by decide) he) (ok_mono (ok_bind2 k) fun z_311 h_310 k => ?_))
      try dsimp only at k
      refine wp_icmp_eq 1276 dL_law_773 (by decide) (fun c_312 => ?_) (fun c_312 => ?_)
      · replace k := ok_t c_312 k
        replace k := ok_lt k
        refine wp_iinc dL_law_1276 rfl ic_6 (by exact Nat.le_of_ble_eq_true rfl) (L1 := [_, _, _, _]) rfl ?_
        refine wp_goto 18 dL_law_1279 (by decide) ?_
        refine wp_bud 3 476 ?_
        exact wp_wk (wkE <| wkE <| wkE <| wkE <| wkN) (hrec _ _ _ _ k)
      · replace k := ok_f c_312 k
        refine wp_iconst dL_law_776 ic_0 ?_
        refine wp_iret rfl rfl dL_law_777 ?_
        exact hret _ _ (ok_some k)
    replace k := ok_f c_301 k
    refine wp_case (22 : Int32) (fun c_314 => ?_) (fun c_314 => ?_)
    · refine wp_tabIn 778 dL_law_33 (by rw [c_314]; decide) (by rw [c_314]; decide) (by rw [c_314]; rfl) (by decide) ?_
      replace k := ok_t c_314 k
      refine wp_aload_n dL_law_778 rfl ?_
      refine wp_aloadS_n dL_law_779 rfl ?_
      refine wp_iload_n dL_law_780 rfl ?_
      refine wp_iconst dL_law_781 ic_1 ?_
      refine wp_iadd dL_law_782 ?_
      replace k := ok_bind k
      obtain ⟨v_315, e_316, k⟩ := k
      refine wp_scrAt dL_law_783 e_316 ?_
      replace k := ok_bind k
      obtain ⟨u, e_317, k⟩ := k
      refine wp_callV1 (N := M_X10_byClock) (ci := 10) mf_X10_byClock mi_X10_byClock me_X10_byClock ml_L_106 dL_law_784 (ckO_e e_317) mv_X10_byClock (by exact Nat.le_of_ble_eq_true rfl) (c_X10_byClock (Nat.le_trans (by decide) he) (ok_mono (ok_bind2 k) fun z_319 h_318 k => ?_))
      try dsimp only at k
      refine wp_aload_n dL_law_787 rfl ?_
      refine wp_aloadS_n dL_law_788 rfl ?_
      refine wp_iload_n dL_law_789 rfl ?_
      refine wp_iconst dL_law_790 ic_1 ?_
      refine wp_iadd dL_law_791 ?_
      replace k := ok_bind k
      obtain ⟨v_320, e_321, k⟩ := k
      refine wp_scrAt dL_law_792 e_321 ?_
      replace k := ok_bind k
      obtain ⟨u, e_322, k⟩ := k
      refine wp_callV1 (N := M_X11_byClock) (ci := 11) mf_X11_byClock mi_X11_byClock me_X11_byClock ml_L_109 dL_law_793 (ckO_e e_322) mv_X11_byClock (by exact Nat.le_of_ble_eq_true rfl) (c_X11_byClock (Nat.le_trans (by decide) he) (ok_mono (ok_bind2 k) fun z_324 h_323 k => ?_))
      try dsimp only at k
      refine wp_icmp_eq 1276 dL_law_796 (by decide) (fun c_325 => ?_) (fun c_325 => ?_)
      · replace k := ok_t c_325 k
        replace k := ok_lt k
        refine wp_iinc dL_law_1276 rfl ic_6 (by exact Nat.le_of_ble_eq_true rfl) (L1 := [_, _, _, _]) rfl ?_
        refine wp_goto 18 dL_law_1279 (by decide) ?_
        refine wp_bud 3 476 ?_
        exact wp_wk (wkE <| wkE <| wkE <| wkE <| wkN) (hrec _ _ _ _ k)
      · replace k := ok_f c_325 k
        refine wp_iconst dL_law_799 ic_0 ?_
        refine wp_iret rfl rfl dL_law_800 ?_
        exact hret _ _ (ok_some k)
    replace k := ok_f c_314 k
    refine wp_case (23 : Int32) (fun c_327 => ?_) (fun c_327 => ?_)
    · refine wp_tabIn 801 dL_law_33 (by rw [c_327]; decide) (by rw [c_327]; decide) (by rw [c_327]; rfl) (by decide) ?_
      replace k := ok_t c_327 k
      refine wp_aload_n dL_law_801 rfl ?_
      refine wp_aloadS_n dL_law_802 rfl ?_
      refine wp_iload_n dL_law_803 rfl ?_
      refine wp_iconst dL_law_804 ic_1 ?_
      refine wp_iadd dL_law_805 ?_
      replace k := ok_bind k
      obtain ⟨v_328, e_329, k⟩ := k
      refine wp_scrAt dL_law_806 e_329 ?_
      refine wp_aloadS_n dL_law_807 rfl ?_
      refine wp_iload_n dL_law_808 rfl ?_
      refine wp_iconst dL_law_809 ic_2 ?_
      refine wp_iadd dL_law_810 ?_
      replace k := ok_bind k
      obtain ⟨v_330, e_331, k⟩ := k
      refine wp_scrAt dL_law_811 e_331 ?_
      replace k := ok_bind k
      obtain ⟨u, e_332, k⟩ := k
      refine wp_callV2 (N := M_X10_spoilt) (ci := 10) mf_X10_spoilt mi_X10_spoilt me_X10_spoilt ml_L_110 dL_law_812 (ckO_e e_332) mv_X10_spoilt (by exact Nat.le_of_ble_eq_true rfl) (c_X10_spoilt (Nat.le_trans (by decide) he) (ok_mono (ok_bind2 k) fun z_334 h_333 k => ?_))
      try dsimp only at k
      refine wp_aload_n dL_law_815 rfl ?_
      refine wp_aloadS_n dL_law_816 rfl ?_
      refine wp_iload_n dL_law_817 rfl ?_
      refine wp_iconst dL_law_818 ic_1 ?_
      refine wp_iadd dL_law_819 ?_
      replace k := ok_bind k
      obtain ⟨v_335, e_336, k⟩ := k
      refine wp_scrAt dL_law_820 e_336 ?_
      refine wp_aloadS_n dL_law_821 rfl ?_
      refine wp_iload_n dL_law_822 rfl ?_
      refine wp_iconst dL_law_823 ic_2 ?_
      refine wp_iadd dL_law_824 ?_
      replace k := ok_bind k
      obtain ⟨v_337, e_338, k⟩ := k
      refine wp_scrAt dL_law_825 e_338 ?_
      replace k := ok_bind k
      obtain ⟨u, e_339, k⟩ := k
      refine wp_callV2 (N := M_X11_spoilt) (ci := 11) mf_X11_spoilt mi_X11_spoilt me_X11_spoilt ml_L_113 dL_law_826 (ckO_e e_339) mv_X11_spoilt (by exact Nat.le_of_ble_eq_true rfl) (c_X11_spoilt (Nat.le_trans (by decide) he) (ok_mono (ok_bind2 k) fun z_341 h_340 k => ?_))
      try dsimp only at k
      refine wp_icmp_eq 1276 dL_law_829 (by decide) (fun c_342 => ?_) (fun c_342 => ?_)
      · replace k := ok_t c_342 k
        replace k := ok_lt k
        refine wp_iinc dL_law_1276 rfl ic_6 (by exact Nat.le_of_ble_eq_true rfl) (L1 := [_, _, _, _]) rfl ?_
        refine wp_goto 18 dL_law_1279 (by decide) ?_
        refine wp_bud 3 476 ?_
        exact wp_wk (wkE <| wkE <| wkE <| wkE <| wkN) (hrec _ _ _ _ k)
      · replace k := ok_f c_342 k
        refine wp_iconst dL_law_832 ic_0 ?_
        refine wp_iret rfl rfl dL_law_833 ?_
        exact hret _ _ (ok_some k)
    replace k := ok_f c_327 k
    refine wp_case (24 : Int32) (fun c_344 => ?_) (fun c_344 => ?_)
    · refine wp_tabIn 834 dL_law_33 (by rw [c_344]; decide) (by rw [c_344]; decide) (by rw [c_344]; rfl) (by decide) ?_
      replace k := ok_t c_344 k
      refine wp_aload_n dL_law_834 rfl ?_
      refine wp_aloadS_n dL_law_835 rfl ?_
      refine wp_iload_n dL_law_836 rfl ?_
      refine wp_iconst dL_law_837 ic_1 ?_
      refine wp_iadd dL_law_838 ?_
      replace k := ok_bind k
      obtain ⟨v_345, e_346, k⟩ := k
      refine wp_scrAt dL_law_839 e_346 ?_
      refine wp_aloadS_n dL_law_840 rfl ?_
      refine wp_iload_n dL_law_841 rfl ?_
      refine wp_iconst dL_law_842 ic_2 ?_
      refine wp_iadd dL_law_843 ?_
      replace k := ok_bind k
      obtain ⟨v_347, e_348, k⟩ := k
      refine wp_scrAt dL_law_844 e_348 ?_
      replace k := ok_bind k
      obtain ⟨u, e_349, k⟩ := k
      refine wp_callV2 (N := M_X10_come) (ci := 10) mf_X10_come mi_X10_come me_X10_come ml_L_114 dL_law_845 (ckO_e e_349) mv_X10_come (by exact Nat.le_of_ble_eq_true rfl) (c_X10_come (Nat.le_trans (by decide) he) (ok_mono (ok_bind2 k) fun z_351 h_350 k => ?_))
      try dsimp only at k
      refine wp_aload_n dL_law_848 rfl ?_
      refine wp_aloadS_n dL_law_849 rfl ?_
      refine wp_iload_n dL_law_850 rfl ?_
      refine wp_iconst dL_law_851 ic_1 ?_
      refine wp_iadd dL_law_852 ?_
      replace k := ok_bind k
      obtain ⟨v_352, e_353, k⟩ := k
      refine wp_scrAt dL_law_853 e_353 ?_
      refine wp_aloadS_n dL_law_854 rfl ?_
      refine wp_iload_n dL_law_855 rfl ?_
      refine wp_iconst dL_law_856 ic_2 ?_
      refine wp_iadd dL_law_857 ?_
      replace k := ok_bind k
      obtain ⟨v_354, e_355, k⟩ := k
      refine wp_scrAt dL_law_858 e_355 ?_
      replace k := ok_bind k
      obtain ⟨u, e_356, k⟩ := k
      refine wp_callV2 (N := M_X11_come) (ci := 11) mf_X11_come mi_X11_come me_X11_come ml_L_117 dL_law_859 (ckO_e e_356) mv_X11_come (by exact Nat.le_of_ble_eq_true rfl) (c_X11_come (Nat.le_trans (by decide) he) (ok_mono (ok_bind2 k) fun z_358 h_357 k => ?_))
      try dsimp only at k
      refine wp_icmp_eq 1276 dL_law_862 (by decide) (fun c_359 => ?_) (fun c_359 => ?_)
      · replace k := ok_t c_359 k
        replace k := ok_lt k
        refine wp_iinc dL_law_1276 rfl ic_6 (by exact Nat.le_of_ble_eq_true rfl) (L1 := [_, _, _, _]) rfl ?_
        refine wp_goto 18 dL_law_1279 (by decide) ?_
        refine wp_bud 3 476 ?_
        exact wp_wk (wkE <| wkE <| wkE <| wkE <| wkN) (hrec _ _ _ _ k)
      · replace k := ok_f c_359 k
        refine wp_iconst dL_law_865 ic_0 ?_
        refine wp_iret rfl rfl dL_law_866 ?_
        exact hret _ _ (ok_some k)
    replace k := ok_f c_344 k
    refine wp_case (25 : Int32) (fun c_361 => ?_) (fun c_361 => ?_)
    · refine wp_tabIn 867 dL_law_33 (by rw [c_361]; decide) (by rw [c_361]; decide) (by rw [c_361]; rfl) (by decide) ?_
      replace k := ok_t c_361 k
      refine wp_aload_n dL_law_867 rfl ?_
      refine wp_aloadS_n dL_law_868 rfl ?_
      refine wp_iload_n dL_law_869 rfl ?_
      refine wp_iconst dL_law_870 ic_1 ?_
      refine wp_iadd dL_law_871 ?_
      replace k := ok_bind k
      obtain ⟨v_362, e_363, k⟩ := k
      refine wp_scrAt dL_law_872 e_363 ?_
      refine wp_aloadS_n dL_law_873 rfl ?_
      refine wp_iload_n dL_law_874 rfl ?_
      refine wp_iconst dL_law_875 ic_2 ?_
      refine wp_iadd dL_law_876 ?_
      replace k := ok_bind k
      obtain ⟨v_364, e_365, k⟩ := k
      refine wp_scrAt dL_law_877 e_365 ?_
      refine wp_aloadS_n dL_law_878 rfl ?_
      refine wp_iload_n dL_law_879 rfl ?_
      refine wp_iconst dL_law_880 ic_3 ?_
      refine wp_iadd dL_law_881 ?_
      replace k := ok_bind k
      obtain ⟨v_366, e_367, k⟩ := k
      refine wp_scrAt dL_law_882 e_367 ?_
      replace k := ok_bind k
      obtain ⟨u, e_368, k⟩ := k
      refine wp_callV3 (N := M_X10_chain) (ci := 10) mf_X10_chain mi_X10_chain me_X10_chain ml_L_118 dL_law_883 (ckO_e e_368) mv_X10_chain (by exact Nat.le_of_ble_eq_true rfl) (c_X10_chain (Nat.le_trans (by decide) he) (ok_mono (ok_bind2 k) fun z_370 h_369 k => ?_))
      try dsimp only at k
      refine wp_aload_n dL_law_886 rfl ?_
      refine wp_aloadS_n dL_law_887 rfl ?_
      refine wp_iload_n dL_law_888 rfl ?_
      refine wp_iconst dL_law_889 ic_1 ?_
      refine wp_iadd dL_law_890 ?_
      replace k := ok_bind k
      obtain ⟨v_371, e_372, k⟩ := k
      refine wp_scrAt dL_law_891 e_372 ?_
      refine wp_aloadS_n dL_law_892 rfl ?_
      refine wp_iload_n dL_law_893 rfl ?_
      refine wp_iconst dL_law_894 ic_2 ?_
      refine wp_iadd dL_law_895 ?_
      replace k := ok_bind k
      obtain ⟨v_373, e_374, k⟩ := k
      refine wp_scrAt dL_law_896 e_374 ?_
      refine wp_aloadS_n dL_law_897 rfl ?_
      refine wp_iload_n dL_law_898 rfl ?_
      refine wp_iconst dL_law_899 ic_3 ?_
      refine wp_iadd dL_law_900 ?_
      replace k := ok_bind k
      obtain ⟨v_375, e_376, k⟩ := k
      refine wp_scrAt dL_law_901 e_376 ?_
      replace k := ok_bind k
      obtain ⟨u, e_377, k⟩ := k
      refine wp_callV3 (N := M_X11_chain) (ci := 11) mf_X11_chain mi_X11_chain me_X11_chain ml_L_121 dL_law_902 (ckO_e e_377) mv_X11_chain (by exact Nat.le_of_ble_eq_true rfl) (c_X11_chain (Nat.le_trans (by decide) he) (ok_mono (ok_bind2 k) fun z_379 h_378 k => ?_))
      try dsimp only at k
      refine wp_icmp_eq 1276 dL_law_905 (by decide) (fun c_380 => ?_) (fun c_380 => ?_)
      · replace k := ok_t c_380 k
        replace k := ok_lt k
        refine wp_iinc dL_law_1276 rfl ic_6 (by exact Nat.le_of_ble_eq_true rfl) (L1 := [_, _, _, _]) rfl ?_
        refine wp_goto 18 dL_law_1279 (by decide) ?_
        refine wp_bud 3 476 ?_
        exact wp_wk (wkE <| wkE <| wkE <| wkE <| wkN) (hrec _ _ _ _ k)
      · replace k := ok_f c_380 k
        refine wp_iconst dL_law_908 ic_0 ?_
        refine wp_iret rfl rfl dL_law_909 ?_
        exact hret _ _ (ok_some k)
    replace k := ok_f c_361 k
    refine wp_case (26 : Int32) (fun c_382 => ?_) (fun c_382 => ?_)
    · refine wp_tabIn 910 dL_law_33 (by rw [c_382]; decide) (by rw [c_382]; decide) (by rw [c_382]; rfl) (by decide) ?_
      replace k := ok_t c_382 k
      refine wp_aload_n dL_law_910 rfl ?_
      refine wp_aloadS_n dL_law_911 rfl ?_
      refine wp_iload_n dL_law_912 rfl ?_
      refine wp_iconst dL_law_913 ic_1 ?_
      refine wp_iadd dL_law_914 ?_
      replace k := ok_bind k
      obtain ⟨v_383, e_384, k⟩ := k
      refine wp_scrAt dL_law_915 e_384 ?_
      replace k := ok_bind k
      obtain ⟨u, e_385, k⟩ := k
      refine wp_callV1 (N := M_X10_ears) (ci := 10) mf_X10_ears mi_X10_ears me_X10_ears ml_L_122 dL_law_916 (ckO_e e_385) mv_X10_ears (by exact Nat.le_of_ble_eq_true rfl) (c_X10_ears (Nat.le_trans (by decide) he) (ok_mono (ok_bind2 k) fun z_387 h_386 k => ?_))
      try dsimp only at k
      refine wp_aload_n dL_law_919 rfl ?_
      refine wp_aloadS_n dL_law_920 rfl ?_
      refine wp_iload_n dL_law_921 rfl ?_
      refine wp_iconst dL_law_922 ic_1 ?_
      refine wp_iadd dL_law_923 ?_
      replace k := ok_bind k
      obtain ⟨v_388, e_389, k⟩ := k
      refine wp_scrAt dL_law_924 e_389 ?_
      replace k := ok_bind k
      obtain ⟨u, e_390, k⟩ := k
      refine wp_callV1 (N := M_X11_ears) (ci := 11) mf_X11_ears mi_X11_ears me_X11_ears ml_L_125 dL_law_925 (ckO_e e_390) mv_X11_ears (by exact Nat.le_of_ble_eq_true rfl) (c_X11_ears (Nat.le_trans (by decide) he) (ok_mono (ok_bind2 k) fun z_392 h_391 k => ?_))
      try dsimp only at k
      refine wp_icmp_eq 1276 dL_law_928 (by decide) (fun c_393 => ?_) (fun c_393 => ?_)
      · replace k := ok_t c_393 k
        replace k := ok_lt k
        refine wp_iinc dL_law_1276 rfl ic_6 (by exact Nat.le_of_ble_eq_true rfl) (L1 := [_, _, _, _]) rfl ?_
        refine wp_goto 18 dL_law_1279 (by decide) ?_
        refine wp_bud 3 476 ?_
        exact wp_wk (wkE <| wkE <| wkE <| wkE <| wkN) (hrec _ _ _ _ k)
      · replace k := ok_f c_393 k
        refine wp_iconst dL_law_931 ic_0 ?_
        refine wp_iret rfl rfl dL_law_932 ?_
        exact hret _ _ (ok_some k)
    replace k := ok_f c_382 k
    refine wp_case (27 : Int32) (fun c_395 => ?_) (fun c_395 => ?_)
    · refine wp_tabIn 933 dL_law_33 (by rw [c_395]; decide) (by rw [c_395]; decide) (by rw [c_395]; rfl) (by decide) ?_
      replace k := ok_t c_395 k
      refine wp_aload_n dL_law_933 rfl ?_
      refine wp_aloadS_n dL_law_934 rfl ?_
      refine wp_iload_n dL_law_935 rfl ?_
      refine wp_iconst dL_law_936 ic_1 ?_
      refine wp_iadd dL_law_937 ?_
      replace k := ok_bind k
      obtain ⟨v_396, e_397, k⟩ := k
      refine wp_scrAt dL_law_938 e_397 ?_
      replace k := ok_bind k
      obtain ⟨u, e_398, k⟩ := k
      refine wp_callV1 (N := M_X10_loudest) (ci := 10) mf_X10_loudest mi_X10_loudest me_X10_loudest ml_L_126 dL_law_939 (ckO_e e_398) mv_X10_loudest (by exact Nat.le_of_ble_eq_true rfl) (c_X10_loudest (Nat.le_trans (by decide) he) (ok_mono (ok_bind2 k) fun z_400 h_399 k => ?_))
      try dsimp only at k
      refine wp_aload_n dL_law_942 rfl ?_
      refine wp_aloadS_n dL_law_943 rfl ?_
      refine wp_iload_n dL_law_944 rfl ?_
      refine wp_iconst dL_law_945 ic_1 ?_
      refine wp_iadd dL_law_946 ?_
      replace k := ok_bind k
      obtain ⟨v_401, e_402, k⟩ := k
      refine wp_scrAt dL_law_947 e_402 ?_
      replace k := ok_bind k
      obtain ⟨u, e_403, k⟩ := k
      refine wp_callV1 (N := M_X11_loudest) (ci := 11) mf_X11_loudest mi_X11_loudest me_X11_loudest ml_L_129 dL_law_948 (ckO_e e_403) mv_X11_loudest (by exact Nat.le_of_ble_eq_true rfl) (c_X11_loudest (Nat.le_trans (by decide) he) (ok_mono (ok_bind2 k) fun z_405 h_404 k => ?_))
      try dsimp only at k
      refine wp_icmp_eq 1276 dL_law_951 (by decide) (fun c_406 => ?_) (fun c_406 => ?_)
      · replace k := ok_t c_406 k
        replace k := ok_lt k
        refine wp_iinc dL_law_1276 rfl ic_6 (by exact Nat.le_of_ble_eq_true rfl) (L1 := [_, _, _, _]) rfl ?_
        refine wp_goto 18 dL_law_1279 (by decide) ?_
        refine wp_bud 3 476 ?_
        exact wp_wk (wkE <| wkE <| wkE <| wkE <| wkN) (hrec _ _ _ _ k)
      · replace k := ok_f c_406 k
        refine wp_iconst dL_law_954 ic_0 ?_
        refine wp_iret rfl rfl dL_law_955 ?_
        exact hret _ _ (ok_some k)
    replace k := ok_f c_395 k
    refine wp_case (28 : Int32) (fun c_408 => ?_) (fun c_408 => ?_)
    · refine wp_tabIn 956 dL_law_33 (by rw [c_408]; decide) (by rw [c_408]; decide) (by rw [c_408]; rfl) (by decide) ?_
      replace k := ok_t c_408 k
      refine wp_aload_n dL_law_956 rfl ?_
      refine wp_aloadS_n dL_law_957 rfl ?_
      refine wp_iload_n dL_law_958 rfl ?_
      refine wp_iconst dL_law_959 ic_1 ?_
      refine wp_iadd dL_law_960 ?_
      replace k := ok_bind k
      obtain ⟨v_409, e_410, k⟩ := k
      refine wp_scrAt dL_law_961 e_410 ?_
      refine wp_aloadS_n dL_law_962 rfl ?_
      refine wp_iload_n dL_law_963 rfl ?_
      refine wp_iconst dL_law_964 ic_2 ?_
      refine wp_iadd dL_law_965 ?_
      replace k := ok_bind k
      obtain ⟨v_411, e_412, k⟩ := k
      refine wp_scrAt dL_law_966 e_412 ?_
      replace k := ok_bind k
      obtain ⟨u, e_413, k⟩ := k
      refine wp_callV2 (N := M_X10_nearest) (ci := 10) mf_X10_nearest mi_X10_nearest me_X10_nearest ml_L_130 dL_law_967 (ckO_e e_413) mv_X10_nearest (by exact Nat.le_of_ble_eq_true rfl) (c_X10_nearest (Nat.le_trans (by decide) he) (ok_mono (ok_bind2 k) fun z_415 h_414 k => ?_))
      try dsimp only at k
      refine wp_aload_n dL_law_970 rfl ?_
      refine wp_aloadS_n dL_law_971 rfl ?_
      refine wp_iload_n dL_law_972 rfl ?_
      refine wp_iconst dL_law_973 ic_1 ?_
      refine wp_iadd dL_law_974 ?_
      replace k := ok_bind k
      obtain ⟨v_416, e_417, k⟩ := k
      refine wp_scrAt dL_law_975 e_417 ?_
      refine wp_aloadS_n dL_law_976 rfl ?_
      refine wp_iload_n dL_law_977 rfl ?_
      refine wp_iconst dL_law_978 ic_2 ?_
      refine wp_iadd dL_law_979 ?_
      replace k := ok_bind k
      obtain ⟨v_418, e_419, k⟩ := k
      refine wp_scrAt dL_law_980 e_419 ?_
      replace k := ok_bind k
      obtain ⟨u, e_420, k⟩ := k
      refine wp_callV2 (N := M_X11_nearest) (ci := 11) mf_X11_nearest mi_X11_nearest me_X11_nearest ml_L_133 dL_law_981 (ckO_e e_420) mv_X11_nearest (by exact Nat.le_of_ble_eq_true rfl) (c_X11_nearest (Nat.le_trans (by decide) he) (ok_mono (ok_bind2 k) fun z_422 h_421 k => ?_))
      try dsimp only at k
      refine wp_icmp_eq 1276 dL_law_984 (by decide) (fun c_423 => ?_) (fun c_423 => ?_)
      · replace k := ok_t c_423 k
        replace k := ok_lt k
        refine wp_iinc dL_law_1276 rfl ic_6 (by exact Nat.le_of_ble_eq_true rfl) (L1 := [_, _, _, _]) rfl ?_
        refine wp_goto 18 dL_law_1279 (by decide) ?_
        refine wp_bud 3 476 ?_
        exact wp_wk (wkE <| wkE <| wkE <| wkE <| wkN) (hrec _ _ _ _ k)
      · replace k := ok_f c_423 k
        refine wp_iconst dL_law_987 ic_0 ?_
        refine wp_iret rfl rfl dL_law_988 ?_
        exact hret _ _ (ok_some k)
    replace k := ok_f c_408 k
    refine wp_case (29 : Int32) (fun c_425 => ?_) (fun c_425 => ?_)
    · refine wp_tabIn 989 dL_law_33 (by rw [c_425]; decide) (by rw [c_425]; decide) (by rw [c_425]; rfl) (by decide) ?_
      replace k := ok_t c_425 k
      refine wp_aload_n dL_law_989 rfl ?_
      refine wp_aloadS_n dL_law_990 rfl ?_
      refine wp_iload_n dL_law_991 rfl ?_
      refine wp_iconst dL_law_992 ic_1 ?_
      refine wp_iadd dL_law_993 ?_
      replace k := ok_bind k
      obtain ⟨v_426, e_427, k⟩ := k
      refine wp_scrAt dL_law_994 e_427 ?_
      replace k := ok_bind k
      obtain ⟨u, e_428, k⟩ := k
      refine wp_callV1 (N := M_X10_heard) (ci := 10) mf_X10_heard mi_X10_heard me_X10_heard ml_L_134 dL_law_995 (ckO_e e_428) mv_X10_heard (by exact Nat.le_of_ble_eq_true rfl) (c_X10_heard (Nat.le_trans (by decide) he) (ok_mono (ok_bind2 k) fun z_430 h_429 k => ?_))
      try dsimp only at k
      refine wp_aload_n dL_law_998 rfl ?_
      refine wp_aloadS_n dL_law_999 rfl ?_
      refine wp_iload_n dL_law_1000 rfl ?_
      refine wp_iconst dL_law_1001 ic_1 ?_
      refine wp_iadd dL_law_1002 ?_
      replace k := ok_bind k
      obtain ⟨v_431, e_432, k⟩ := k
      refine wp_scrAt dL_law_1003 e_432 ?_
      replace k := ok_bind k
      obtain ⟨u, e_433, k⟩ := k
      refine wp_callV1 (N := M_X11_heard) (ci := 11) mf_X11_heard mi_X11_heard me_X11_heard ml_L_137 dL_law_1004 (ckO_e e_433) mv_X11_heard (by exact Nat.le_of_ble_eq_true rfl) (c_X11_heard (Nat.le_trans (by decide) he) (ok_mono (ok_bind2 k) fun z_435 h_434 k => ?_))
      try dsimp only at k
      refine wp_icmp_eq 1276 dL_law_1007 (by decide) (fun c_436 => ?_) (fun c_436 => ?_)
      · replace k := ok_t c_436 k
        replace k := ok_lt k
        refine wp_iinc dL_law_1276 rfl ic_6 (by exact Nat.le_of_ble_eq_true rfl) (L1 := [_, _, _, _]) rfl ?_
        refine wp_goto 18 dL_law_1279 (by decide) ?_
        refine wp_bud 3 476 ?_
        exact wp_wk (wkE <| wkE <| wkE <| wkE <| wkN) (hrec _ _ _ _ k)
      · replace k := ok_f c_436 k
        refine wp_iconst dL_law_1010 ic_0 ?_
        refine wp_iret rfl rfl dL_law_1011 ?_
        exact hret _ _ (ok_some k)
    replace k := ok_f c_425 k
    refine wp_case (30 : Int32) (fun c_438 => ?_) (fun c_438 => ?_)
    · refine wp_tabIn 1012 dL_law_33 (by rw [c_438]; decide) (by rw [c_438]; decide) (by rw [c_438]; rfl) (by decide) ?_
      replace k := ok_t c_438 k
      refine wp_aload_n dL_law_1012 rfl ?_
      replace k := ok_bind k
      obtain ⟨u, e_439, k⟩ := k
      refine wp_callV0 (N := M_X10_forget) (ci := 10) mf_X10_forget mi_X10_forget me_X10_forget ml_L_138 dL_law_1013 (ckO_e e_439) mv_X10_forget (by exact Nat.le_of_ble_eq_true rfl) (c_X10_forget (Nat.le_trans (by decide) he) (ok_mono (ok_bind2 k) fun z_441 h_440 k => ?_))
      try dsimp only at k
      refine wp_aload_n dL_law_1016 rfl ?_
      replace k := ok_bind k
      obtain ⟨u, e_442, k⟩ := k
      refine wp_callV0 (N := M_X11_forget) (ci := 11) mf_X11_forget mi_X11_forget me_X11_forget ml_L_141 dL_law_1017 (ckO_e e_442) mv_X11_forget (by exact Nat.le_of_ble_eq_true rfl) (c_X11_forget (Nat.le_trans (by decide) he) (ok_mono (ok_bind2 k) fun z_444 h_443 k => ?_))
      try dsimp only at k
      refine wp_icmp_eq 1276 dL_law_1020 (by decide) (fun c_445 => ?_) (fun c_445 => ?_)
      · replace k := ok_t c_445 k
        replace k := ok_lt k
        refine wp_iinc dL_law_1276 rfl ic_6 (by exact Nat.le_of_ble_eq_true rfl) (L1 := [_, _, _, _]) rfl ?_
        refine wp_goto 18 dL_law_1279 (by decide) ?_
        refine wp_bud 3 476 ?_
        exact wp_wk (wkE <| wkE <| wkE <| wkE <| wkN) (hrec _ _ _ _ k)
      · replace k := ok_f c_445 k
        refine wp_iconst dL_law_1023 ic_0 ?_
        refine wp_iret rfl rfl dL_law_1024 ?_
        exact hret _ _ (ok_some k)
    replace k := ok_f c_438 k
    refine wp_case (31 : Int32) (fun c_447 => ?_) (fun c_447 => ?_)
    · refine wp_tabIn 1025 dL_law_33 (by rw [c_447]; decide) (by rw [c_447]; decide) (by rw [c_447]; rfl) (by decide) ?_
      replace k := ok_t c_447 k
      refine wp_aload_n dL_law_1025 rfl ?_
      replace k := ok_bind k
      obtain ⟨u, e_448, k⟩ := k
      refine wp_callV0 (N := M_X10_canBe) (ci := 10) mf_X10_canBe mi_X10_canBe me_X10_canBe ml_L_142 dL_law_1026 (ckO_e e_448) mv_X10_canBe (by exact Nat.le_of_ble_eq_true rfl) (c_X10_canBe (Nat.le_trans (by decide) he) (ok_mono (ok_bind2 k) fun z_450 h_449 k => ?_))
      try dsimp only at k
      refine wp_aload_n dL_law_1029 rfl ?_
      replace k := ok_bind k
      obtain ⟨u, e_451, k⟩ := k
      refine wp_callV0 (N := M_X11_canBe) (ci := 11) mf_X11_canBe mi_X11_canBe me_X11_canBe ml_L_145 dL_law_1030 (ckO_e e_451) mv_X11_canBe (by exact Nat.le_of_ble_eq_true rfl) (c_X11_canBe (Nat.le_trans (by decide) he) (ok_mono (ok_bind2 k) fun z_453 h_452 k => ?_))
      try dsimp only at k
      refine wp_icmp_eq 1276 dL_law_1033 (by decide) (fun c_454 => ?_) (fun c_454 => ?_)
      · replace k := ok_t c_454 k
        replace k := ok_lt k
        refine wp_iinc dL_law_1276 rfl ic_6 (by exact Nat.le_of_ble_eq_true rfl) (L1 := [_, _, _, _]) rfl ?_
        refine wp_goto 18 dL_law_1279 (by decide) ?_
        refine wp_bud 3 476 ?_
        exact wp_wk (wkE <| wkE <| wkE <| wkE <| wkN) (hrec _ _ _ _ k)
      · replace k := ok_f c_454 k
        refine wp_iconst dL_law_1036 ic_0 ?_
        refine wp_iret rfl rfl dL_law_1037 ?_
        exact hret _ _ (ok_some k)
    replace k := ok_f c_447 k
    refine wp_case (32 : Int32) (fun c_456 => ?_) (fun c_456 => ?_)
    · refine wp_tabIn 1038 dL_law_33 (by rw [c_456]; decide) (by rw [c_456]; decide) (by rw [c_456]; rfl) (by decide) ?_
      replace k := ok_t c_456 k
      refine wp_aload_n dL_law_1038 rfl ?_
      refine wp_aloadS_n dL_law_1039 rfl ?_
      refine wp_iload_n dL_law_1040 rfl ?_
      refine wp_iconst dL_law_1041 ic_1 ?_
      refine wp_iadd dL_law_1042 ?_
      replace k := ok_bind k
      obtain ⟨v_457, e_458, k⟩ := k
      refine wp_scrAt dL_law_1043 e_458 ?_
      replace k := ok_bind k
      obtain ⟨u, e_459, k⟩ := k
      refine wp_callV1 (N := M_X10_listen) (ci := 10) mf_X10_listen mi_X10_listen me_X10_listen ml_L_146 dL_law_1044 (ckO_e e_459) mv_X10_listen (by exact Nat.le_of_ble_eq_true rfl) (c_X10_listen (Nat.le_trans (by decide) he) (ok_mono (ok_bind2 k) fun z_461 h_460 k => ?_))
      try dsimp only at k
      refine wp_aload_n dL_law_1047 rfl ?_
      refine wp_aloadS_n dL_law_1048 rfl ?_
      refine wp_iload_n dL_law_1049 rfl ?_
      refine wp_iconst dL_law_1050 ic_1 ?_
      refine wp_iadd dL_law_1051 ?_
      replace k := ok_bind k
      obtain ⟨v_462, e_463, k⟩ := k
      refine wp_scrAt dL_law_1052 e_463 ?_
      replace k := ok_bind k
      obtain ⟨u, e_464, k⟩ := k
      refine wp_callV1 (N := M_X11_listen) (ci := 11) mf_X11_listen mi_X11_listen me_X11_listen ml_L_149 dL_law_1053 (ckO_e e_464) mv_X11_listen (by exact Nat.le_of_ble_eq_true rfl) (c_X11_listen (Nat.le_trans (by decide) he) (ok_mono (ok_bind2 k) fun z_466 h_465 k => ?_))
      try dsimp only at k
      refine wp_icmp_eq 1276 dL_law_1056 (by decide) (fun c_467 => ?_) (fun c_467 => ?_)
      · replace k := ok_t c_467 k
        replace k := ok_lt k
        refine wp_iinc dL_law_1276 rfl ic_6 (by exact Nat.le_of_ble_eq_true rfl) (L1 := [_, _, _, _]) rfl ?_
        refine wp_goto 18 dL_law_1279 (by decide) ?_
        refine wp_bud 3 476 ?_
        exact wp_wk (wkE <| wkE <| wkE <| wkE <| wkN) (hrec _ _ _ _ k)
      · replace k := ok_f c_467 k
        refine wp_iconst dL_law_1059 ic_0 ?_
        refine wp_iret rfl rfl dL_law_1060 ?_
        exact hret _ _ (ok_some k)
    replace k := ok_f c_456 k
    refine wp_case (33 : Int32) (fun c_469 => ?_) (fun c_469 => ?_)
    · refine wp_tabIn 1061 dL_law_33 (by rw [c_469]; decide) (by rw [c_469]; decide) (by rw [c_469]; rfl) (by decide) ?_
      replace k := ok_t c_469 k
      refine wp_aload_n dL_law_1061 rfl ?_
      refine wp_aloadS_n dL_law_1062 rfl ?_
      refine wp_iload_n dL_law_1063 rfl ?_
      refine wp_iconst dL_law_1064 ic_1 ?_
      refine wp_iadd dL_law_1065 ?_
      replace k := ok_bind k
      obtain ⟨v_470, e_471, k⟩ := k
      refine wp_scrAt dL_law_1066 e_471 ?_
      refine wp_aloadS_n dL_law_1067 rfl ?_
      refine wp_iload_n dL_law_1068 rfl ?_
      refine wp_iconst dL_law_1069 ic_2 ?_
      refine wp_iadd dL_law_1070 ?_
      replace k := ok_bind k
      obtain ⟨v_472, e_473, k⟩ := k
      refine wp_scrAt dL_law_1071 e_473 ?_
      replace k := ok_bind k
      obtain ⟨u, e_476, k⟩ := k
      refine wp_callVA2 (N := M_X10_few) (ci := 10) (cb := (cb + 2)) (sb := (sb + 456)) mf_X10_few mi_X10_few me_X10_few ml_L_150 dL_law_1072 (ckO_e e_476) mv_X10_few (by exact Nat.le_of_ble_eq_true rfl) (c_X10_few (Nat.le_trans (by decide) he) (ok_mono (ok_bind2 k) fun z_475 h_474 k => ?_))
      try dsimp only at k
      refine wp_aload_n dL_law_1075 rfl ?_
      refine wp_aloadS_n dL_law_1076 rfl ?_
      refine wp_iload_n dL_law_1077 rfl ?_
      refine wp_iconst dL_law_1078 ic_1 ?_
      refine wp_iadd dL_law_1079 ?_
      replace k := ok_bind k
      obtain ⟨v_477, e_478, k⟩ := k
      refine wp_scrAt dL_law_1080 e_478 ?_
      refine wp_aloadS_n dL_law_1081 rfl ?_
      refine wp_iload_n dL_law_1082 rfl ?_
      refine wp_iconst dL_law_1083 ic_2 ?_
      refine wp_iadd dL_law_1084 ?_
      replace k := ok_bind k
      obtain ⟨v_479, e_480, k⟩ := k
      refine wp_scrAt dL_law_1085 e_480 ?_
      replace k := ok_bind k
      obtain ⟨u, e_481, k⟩ := k
      refine wp_callV2 (N := M_X11_few) (ci := 11) mf_X11_few mi_X11_few me_X11_few ml_L_154 dL_law_1086 (ckO_e e_481) mv_X11_few (by exact Nat.le_of_ble_eq_true rfl) (c_X11_few (Nat.le_trans (by decide) he) (ok_mono (ok_bind2 k) fun z_483 h_482 k => ?_))
      try dsimp only at k
      refine wp_lcmp dL_law_1089 ?_
      refine wp_if_eq 1276 dL_law_1090 (by decide) (fun c_484 => ?_) (fun c_484 => ?_)
      · replace k := ok_t c_484 k
        replace k := ok_lt k
        refine wp_iinc dL_law_1276 rfl ic_6 (by exact Nat.le_of_ble_eq_true rfl) (L1 := [_, _, _, _]) rfl ?_
        refine wp_goto 18 dL_law_1279 (by decide) ?_
        refine wp_bud 2 456 ?_
        exact wp_wk (wkE <| wkE <| wkE <| wkE <| wkN) (hrec _ _ _ _ k)
      · replace k := ok_f c_484 k
        refine wp_iconst dL_law_1093 ic_0 ?_
        refine wp_iret rfl rfl dL_law_1094 ?_
        exact hret _ _ (ok_some k)
    replace k := ok_f c_469 k
    refine wp_case (34 : Int32) (fun c_486 => ?_) (fun c_486 => ?_)
    · refine wp_tabIn 1095 dL_law_33 (by rw [c_486]; decide) (by rw [c_486]; decide) (by rw [c_486]; rfl) (by decide) ?_
      replace k := ok_t c_486 k
      refine wp_aload_n dL_law_1095 rfl ?_
      refine wp_aloadS_n dL_law_1096 rfl ?_
      refine wp_iload_n dL_law_1097 rfl ?_
      refine wp_iconst dL_law_1098 ic_1 ?_
      refine wp_iadd dL_law_1099 ?_
      replace k := ok_bind k
      obtain ⟨v_487, e_488, k⟩ := k
      refine wp_scrAt dL_law_1100 e_488 ?_
      refine wp_aloadS_n dL_law_1101 rfl ?_
      refine wp_iload_n dL_law_1102 rfl ?_
      refine wp_iconst dL_law_1103 ic_2 ?_
      refine wp_iadd dL_law_1104 ?_
      replace k := ok_bind k
      obtain ⟨v_489, e_490, k⟩ := k
      refine wp_scrAt dL_law_1105 e_490 ?_
      replace k := ok_bind k
      obtain ⟨u, e_491, k⟩ := k
      refine wp_callV2 (N := M_X10_compare) (ci := 10) mf_X10_compare mi_X10_compare me_X10_compare ml_L_155 dL_law_1106 (ckO_e e_491) mv_X10_compare (by exact Nat.le_of_ble_eq_true rfl) (c_X10_compare (Nat.le_trans (by decide) he) (ok_mono (ok_bind2 k) fun z_493 h_492 k => ?_))
      try dsimp only at k
      refine wp_aload_n dL_law_1109 rfl ?_
      refine wp_aloadS_n dL_law_1110 rfl ?_
      refine wp_iload_n dL_law_1111 rfl ?_
      refine wp_iconst dL_law_1112 ic_1 ?_
      refine wp_iadd dL_law_1113 ?_
      replace k := ok_bind k
      obtain ⟨v_494, e_495, k⟩ := k
      refine wp_scrAt dL_law_1114 e_495 ?_
      refine wp_aloadS_n dL_law_1115 rfl ?_
      refine wp_iload_n dL_law_1116 rfl ?_
      refine wp_iconst dL_law_1117 ic_2 ?_
      refine wp_iadd dL_law_1118 ?_
      replace k := ok_bind k
      obtain ⟨v_496, e_497, k⟩ := k
      refine wp_scrAt dL_law_1119 e_497 ?_
      replace k := ok_bind k
      obtain ⟨u, e_498, k⟩ := k
      refine wp_callV2 (N := M_X11_compare) (ci := 11) mf_X11_compare mi_X11_compare me_X11_compare ml_L_158 dL_law_1120 (ckO_e e_498) mv_X11_compare (by exact Nat.le_of_ble_eq_true rfl) (c_X11_compare (Nat.le_trans (by decide) he) (ok_mono (ok_bind2 k) fun z_500 h_499 k => ?_))
      try dsimp only at k
      refine wp_icmp_eq 1276 dL_law_1123 (by decide) (fun c_501 => ?_) (fun c_501 => ?_)
      · replace k := ok_t c_501 k
        replace k := ok_lt k
        refine wp_iinc dL_law_1276 rfl ic_6 (by exact Nat.le_of_ble_eq_true rfl) (L1 := [_, _, _, _]) rfl ?_
        refine wp_goto 18 dL_law_1279 (by decide) ?_
        refine wp_bud 3 476 ?_
        exact wp_wk (wkE <| wkE <| wkE <| wkE <| wkN) (hrec _ _ _ _ k)
      · replace k := ok_f c_501 k
        refine wp_iconst dL_law_1126 ic_0 ?_
        refine wp_iret rfl rfl dL_law_1127 ?_
        exact hret _ _ (ok_some k)
    replace k := ok_f c_486 k
    refine wp_case (35 : Int32) (fun c_503 => ?_) (fun c_503 => ?_)
    · refine wp_tabIn 1128 dL_law_33 (by rw [c_503]; decide) (by rw [c_503]; decide) (by rw [c_503]; rfl) (by decide) ?_
      replace k := ok_t c_503 k
      refine wp_aload_n dL_law_1128 rfl ?_
      refine wp_aloadS_n dL_law_1129 rfl ?_
      refine wp_iload_n dL_law_1130 rfl ?_
      refine wp_iconst dL_law_1131 ic_1 ?_
      refine wp_iadd dL_law_1132 ?_
      replace k := ok_bind k
      obtain ⟨v_504, e_505, k⟩ := k
      refine wp_scrAt dL_law_1133 e_505 ?_
      refine wp_aloadS_n dL_law_1134 rfl ?_
      refine wp_iload_n dL_law_1135 rfl ?_
      refine wp_iconst dL_law_1136 ic_2 ?_
      refine wp_iadd dL_law_1137 ?_
      replace k := ok_bind k
      obtain ⟨v_506, e_507, k⟩ := k
      refine wp_scrAt dL_law_1138 e_507 ?_
      replace k := ok_bind k
      obtain ⟨u, e_508, k⟩ := k
      refine wp_callV2 (N := M_X10_mays) (ci := 10) mf_X10_mays mi_X10_mays me_X10_mays ml_L_159 dL_law_1139 (ckO_e e_508) mv_X10_mays (by exact Nat.le_of_ble_eq_true rfl) (c_X10_mays (Nat.le_trans (by decide) he) (ok_mono (ok_bind2 k) fun z_510 h_509 k => ?_))
      try dsimp only at k
      refine wp_aload_n dL_law_1142 rfl ?_
      refine wp_aloadS_n dL_law_1143 rfl ?_
      refine wp_iload_n dL_law_1144 rfl ?_
      refine wp_iconst dL_law_1145 ic_1 ?_
      refine wp_iadd dL_law_1146 ?_
      replace k := ok_bind k
      obtain ⟨v_511, e_512, k⟩ := k
      refine wp_scrAt dL_law_1147 e_512 ?_
      refine wp_aloadS_n dL_law_1148 rfl ?_
      refine wp_iload_n dL_law_1149 rfl ?_
      refine wp_iconst dL_law_1150 ic_2 ?_
      refine wp_iadd dL_law_1151 ?_
      replace k := ok_bind k
      obtain ⟨v_513, e_514, k⟩ := k
      refine wp_scrAt dL_law_1152 e_514 ?_
      replace k := ok_bind k
      obtain ⟨u, e_515, k⟩ := k
      refine wp_callV2 (N := M_X11_mays) (ci := 11) mf_X11_mays mi_X11_mays me_X11_mays ml_L_162 dL_law_1153 (ckO_e e_515) mv_X11_mays (by exact Nat.le_of_ble_eq_true rfl) (c_X11_mays (Nat.le_trans (by decide) he) (ok_mono (ok_bind2 k) fun z_517 h_516 k => ?_))
      try dsimp only at k
      refine wp_icmp_eq 1276 dL_law_1156 (by decide) (fun c_518 => ?_) (fun c_518 => ?_)
      · replace k := ok_t c_518 k
        replace k := ok_lt k
        refine wp_iinc dL_law_1276 rfl ic_6 (by exact Nat.le_of_ble_eq_true rfl) (L1 := [_, _, _, _]) rfl ?_
        refine wp_goto 18 dL_law_1279 (by decide) ?_
        refine wp_bud 3 476 ?_
        exact wp_wk (wkE <| wkE <| wkE <| wkE <| wkN) (hrec _ _ _ _ k)
      · replace k := ok_f c_518 k
        refine wp_iconst dL_law_1159 ic_0 ?_
        refine wp_iret rfl rfl dL_law_1160 ?_
        exact hret _ _ (ok_some k)
    replace k := ok_f c_503 k
    refine wp_case (36 : Int32) (fun c_520 => ?_) (fun c_520 => ?_)
    · refine wp_tabIn 1161 dL_law_33 (by rw [c_520]; decide) (by rw [c_520]; decide) (by rw [c_520]; rfl) (by decide) ?_
      replace k := ok_t c_520 k
      refine wp_aload_n dL_law_1161 rfl ?_
      refine wp_aloadS_n dL_law_1162 rfl ?_
      refine wp_iload_n dL_law_1163 rfl ?_
      refine wp_iconst dL_law_1164 ic_1 ?_
      refine wp_iadd dL_law_1165 ?_
      replace k := ok_bind k
      obtain ⟨v_521, e_522, k⟩ := k
      refine wp_scrAt dL_law_1166 e_522 ?_
      refine wp_aloadS_n dL_law_1167 rfl ?_
      refine wp_iload_n dL_law_1168 rfl ?_
      refine wp_iconst dL_law_1169 ic_2 ?_
      refine wp_iadd dL_law_1170 ?_
      replace k := ok_bind k
      obtain ⟨v_523, e_524, k⟩ := k
      refine wp_scrAt dL_law_1171 e_524 ?_
      replace k := ok_bind k
      obtain ⟨u, e_525, k⟩ := k
      refine wp_callV2 (N := M_X10_drawn) (ci := 10) mf_X10_drawn mi_X10_drawn me_X10_drawn ml_L_163 dL_law_1172 (ckO_e e_525) mv_X10_drawn (by exact Nat.le_of_ble_eq_true rfl) (c_X10_drawn (Nat.le_trans (by decide) he) (ok_mono (ok_bind2 k) fun z_527 h_526 k => ?_))
      try dsimp only at k
      refine wp_aload_n dL_law_1175 rfl ?_
      refine wp_aloadS_n dL_law_1176 rfl ?_
      refine wp_iload_n dL_law_1177 rfl ?_
      refine wp_iconst dL_law_1178 ic_1 ?_
      refine wp_iadd dL_law_1179 ?_
      replace k := ok_bind k
      obtain ⟨v_528, e_529, k⟩ := k
      refine wp_scrAt dL_law_1180 e_529 ?_
      refine wp_aloadS_n dL_law_1181 rfl ?_
      refine wp_iload_n dL_law_1182 rfl ?_
      refine wp_iconst dL_law_1183 ic_2 ?_
      refine wp_iadd dL_law_1184 ?_
      replace k := ok_bind k
      obtain ⟨v_530, e_531, k⟩ := k
      refine wp_scrAt dL_law_1185 e_531 ?_
      replace k := ok_bind k
      obtain ⟨u, e_532, k⟩ := k
      refine wp_callV2 (N := M_X11_drawn) (ci := 11) mf_X11_drawn mi_X11_drawn me_X11_drawn ml_L_166 dL_law_1186 (ckO_e e_532) mv_X11_drawn (by exact Nat.le_of_ble_eq_true rfl) (c_X11_drawn (Nat.le_trans (by decide) he) (ok_mono (ok_bind2 k) fun z_534 h_533 k => ?_))
      try dsimp only at k
      refine wp_icmp_eq 1276 dL_law_1189 (by decide) (fun c_535 => ?_) (fun c_535 => ?_)
      · replace k := ok_t c_535 k
        replace k := ok_lt k
        refine wp_iinc dL_law_1276 rfl ic_6 (by exact Nat.le_of_ble_eq_true rfl) (L1 := [_, _, _, _]) rfl ?_
        refine wp_goto 18 dL_law_1279 (by decide) ?_
        refine wp_bud 3 476 ?_
        exact wp_wk (wkE <| wkE <| wkE <| wkE <| wkN) (hrec _ _ _ _ k)
      · replace k := ok_f c_535 k
        refine wp_iconst dL_law_1192 ic_0 ?_
        refine wp_iret rfl rfl dL_law_1193 ?_
        exact hret _ _ (ok_some k)
    replace k := ok_f c_520 k
    refine wp_case (37 : Int32) (fun c_537 => ?_) (fun c_537 => ?_)
    · refine wp_tabIn 1194 dL_law_33 (by rw [c_537]; decide) (by rw [c_537]; decide) (by rw [c_537]; rfl) (by decide) ?_
      replace k := ok_t c_537 k
      refine wp_aload_n dL_law_1194 rfl ?_
      refine wp_aloadS_n dL_law_1195 rfl ?_
      refine wp_iload_n dL_law_1196 rfl ?_
      refine wp_iconst dL_law_1197 ic_1 ?_
      refine wp_iadd dL_law_1198 ?_
      replace k := ok_bind k
      obtain ⟨v_538, e_539, k⟩ := k
      refine wp_scrAt dL_law_1199 e_539 ?_
      replace k := ok_bind k
      obtain ⟨u, e_540, k⟩ := k
      refine wp_callV1 (N := M_X10_image) (ci := 10) mf_X10_image mi_X10_image me_X10_image ml_L_167 dL_law_1200 (ckO_e e_540) mv_X10_image (by exact Nat.le_of_ble_eq_true rfl) (c_X10_image (Nat.le_trans (by decide) he) (ok_mono (ok_bind2 k) fun z_542 h_541 k => ?_))
      try dsimp only at k
      refine wp_aload_n dL_law_1203 rfl ?_
      refine wp_aloadS_n dL_law_1204 rfl ?_
      refine wp_iload_n dL_law_1205 rfl ?_
      refine wp_iconst dL_law_1206 ic_1 ?_
      refine wp_iadd dL_law_1207 ?_
      replace k := ok_bind k
      obtain ⟨v_543, e_544, k⟩ := k
      refine wp_scrAt dL_law_1208 e_544 ?_
      replace k := ok_bind k
      obtain ⟨u, e_545, k⟩ := k
      refine wp_callV1 (N := M_X11_image) (ci := 11) mf_X11_image mi_X11_image me_X11_image ml_L_170 dL_law_1209 (ckO_e e_545) mv_X11_image (by exact Nat.le_of_ble_eq_true rfl) (c_X11_image (Nat.le_trans (by decide) he) (ok_mono (ok_bind2 k) fun z_547 h_546 k => ?_))
      try dsimp only at k
      refine wp_icmp_eq 1276 dL_law_1212 (by decide) (fun c_548 => ?_) (fun c_548 => ?_)
      · replace k := ok_t c_548 k
        replace k := ok_lt k
        refine wp_iinc dL_law_1276 rfl ic_6 (by exact Nat.le_of_ble_eq_true rfl) (L1 := [_, _, _, _]) rfl ?_
        refine wp_goto 18 dL_law_1279 (by decide) ?_
        refine wp_bud 3 476 ?_
        exact wp_wk (wkE <| wkE <| wkE <| wkE <| wkN) (hrec _ _ _ _ k)
      · replace k := ok_f c_548 k
        refine wp_iconst dL_law_1215 ic_0 ?_
        refine wp_iret rfl rfl dL_law_1216 ?_
        exact hret _ _ (ok_some k)
    replace k := ok_f c_537 k
    refine wp_case (38 : Int32) (fun c_550 => ?_) (fun c_550 => ?_)
    · refine wp_tabIn 1217 dL_law_33 (by rw [c_550]; decide) (by rw [c_550]; decide) (by rw [c_550]; rfl) (by decide) ?_
      replace k := ok_t c_550 k
      refine wp_aload_n dL_law_1217 rfl ?_
      refine wp_aloadS_n dL_law_1218 rfl ?_
      refine wp_iload_n dL_law_1219 rfl ?_
      refine wp_iconst dL_law_1220 ic_1 ?_
      refine wp_iadd dL_law_1221 ?_
      replace k := ok_bind k
      obtain ⟨v_551, e_552, k⟩ := k
      refine wp_scrAt dL_law_1222 e_552 ?_
      replace k := ok_bind k
      obtain ⟨u, e_553, k⟩ := k
      refine wp_callV1 (N := M_X10_back) (ci := 10) mf_X10_back mi_X10_back me_X10_back ml_L_171 dL_law_1223 (ckO_e e_553) mv_X10_back (by exact Nat.le_of_ble_eq_true rfl) (c_X10_back (Nat.le_trans (by decide) he) (ok_mono (ok_bind2 k) fun z_555 h_554 k => ?_))
      try dsimp only at k
      refine wp_aload_n dL_law_1226 rfl ?_
      refine wp_aloadS_n dL_law_1227 rfl ?_
      refine wp_iload_n dL_law_1228 rfl ?_
      refine wp_iconst dL_law_1229 ic_1 ?_
      refine wp_iadd dL_law_1230 ?_
      replace k := ok_bind k
      obtain ⟨v_556, e_557, k⟩ := k
      refine wp_scrAt dL_law_1231 e_557 ?_
      replace k := ok_bind k
      obtain ⟨u, e_558, k⟩ := k
      refine wp_callV1 (N := M_X11_back) (ci := 11) mf_X11_back mi_X11_back me_X11_back ml_L_174 dL_law_1232 (ckO_e e_558) mv_X11_back (by exact Nat.le_of_ble_eq_true rfl) (c_X11_back (Nat.le_trans (by decide) he) (ok_mono (ok_bind2 k) fun z_560 h_559 k => ?_))
      try dsimp only at k
      refine wp_icmp_eq 1276 dL_law_1235 (by decide) (fun c_561 => ?_) (fun c_561 => ?_)
      · replace k := ok_t c_561 k
        replace k := ok_lt k
        refine wp_iinc dL_law_1276 rfl ic_6 (by exact Nat.le_of_ble_eq_true rfl) (L1 := [_, _, _, _]) rfl ?_
        refine wp_goto 18 dL_law_1279 (by decide) ?_
        refine wp_bud 3 476 ?_
        exact wp_wk (wkE <| wkE <| wkE <| wkE <| wkN) (hrec _ _ _ _ k)
      · replace k := ok_f c_561 k
        refine wp_iconst dL_law_1238 ic_0 ?_
        refine wp_iret rfl rfl dL_law_1239 ?_
        exact hret _ _ (ok_some k)
    replace k := ok_f c_550 k
    refine wp_case (39 : Int32) (fun c_563 => ?_) (fun c_563 => ?_)
    · refine wp_tabIn 1240 dL_law_33 (by rw [c_563]; decide) (by rw [c_563]; decide) (by rw [c_563]; rfl) (by decide) ?_
      replace k := ok_t c_563 k
      refine wp_aload_n dL_law_1240 rfl ?_
      refine wp_aloadS_n dL_law_1241 rfl ?_
      refine wp_iload_n dL_law_1242 rfl ?_
      refine wp_iconst dL_law_1243 ic_1 ?_
      refine wp_iadd dL_law_1244 ?_
      replace k := ok_bind k
      obtain ⟨v_564, e_565, k⟩ := k
      refine wp_scrAt dL_law_1245 e_565 ?_
      replace k := ok_bind k
      obtain ⟨u, e_566, k⟩ := k
      refine wp_callV1 (N := M_X10_count) (ci := 10) mf_X10_count mi_X10_count me_X10_count ml_L_175 dL_law_1246 (ckO_e e_566) mv_X10_count (by exact Nat.le_of_ble_eq_true rfl) (c_X10_count (Nat.le_trans (by decide) he) (ok_mono (ok_bind2 k) fun z_568 h_567 k => ?_))
      try dsimp only at k
      refine wp_aload_n dL_law_1249 rfl ?_
      refine wp_aloadS_n dL_law_1250 rfl ?_
      refine wp_iload_n dL_law_1251 rfl ?_
      refine wp_iconst dL_law_1252 ic_1 ?_
      refine wp_iadd dL_law_1253 ?_
      replace k := ok_bind k
      obtain ⟨v_569, e_570, k⟩ := k
      refine wp_scrAt dL_law_1254 e_570 ?_
      replace k := ok_bind k
      obtain ⟨u, e_571, k⟩ := k
      refine wp_callV1 (N := M_X11_count) (ci := 11) mf_X11_count mi_X11_count me_X11_count ml_L_178 dL_law_1255 (ckO_e e_571) mv_X11_count (by exact Nat.le_of_ble_eq_true rfl) (c_X11_count (Nat.le_trans (by decide) he) (ok_mono (ok_bind2 k) fun z_573 h_572 k => ?_))
      try dsimp only at k
      refine wp_icmp_eq 1276 dL_law_1258 (by decide) (fun c_574 => ?_) (fun c_574 => ?_)
      · replace k := ok_t c_574 k
        replace k := ok_lt k
        refine wp_iinc dL_law_1276 rfl ic_6 (by exact Nat.le_of_ble_eq_true rfl) (L1 := [_, _, _, _]) rfl ?_
        refine wp_goto 18 dL_law_1279 (by decide) ?_
        refine wp_bud 3 476 ?_
        exact wp_wk (wkE <| wkE <| wkE <| wkE <| wkN) (hrec _ _ _ _ k)
      · replace k := ok_f c_574 k
        refine wp_iconst dL_law_1261 ic_0 ?_
        refine wp_iret rfl rfl dL_law_1262 ?_
        exact hret _ _ (ok_some k)
    replace k := ok_f c_563 k
    refine wp_case (40 : Int32) (fun c_576 => ?_) (fun c_576 => ?_)
    · refine wp_tabIn 1263 dL_law_33 (by rw [c_576]; decide) (by rw [c_576]; decide) (by rw [c_576]; rfl) (by decide) ?_
      replace k := ok_t c_576 k
      refine wp_aload_n dL_law_1263 rfl ?_
      replace k := ok_bind k
      obtain ⟨u, e_577, k⟩ := k
      refine wp_callV0 (N := M_X10_status) (ci := 10) mf_X10_status mi_X10_status me_X10_status ml_L_179 dL_law_1264 (ckO_e e_577) mv_X10_status (by exact Nat.le_of_ble_eq_true rfl) (c_X10_status (Nat.le_trans (by decide) he) (ok_mono (ok_bind2 k) fun z_579 h_578 k => ?_))
      try dsimp only at k
      refine wp_aload_n dL_law_1267 rfl ?_
      replace k := ok_bind k
      obtain ⟨u, e_580, k⟩ := k
      refine wp_callV0 (N := M_X11_status) (ci := 11) mf_X11_status mi_X11_status me_X11_status ml_L_182 dL_law_1268 (ckO_e e_580) mv_X11_status (by exact Nat.le_of_ble_eq_true rfl) (c_X11_status (Nat.le_trans (by decide) he) (ok_mono (ok_bind2 k) fun z_582 h_581 k => ?_))
      try dsimp only at k
      refine wp_icmp_eq 1276 dL_law_1271 (by decide) (fun c_583 => ?_) (fun c_583 => ?_)
      · replace k := ok_t c_583 k
        replace k := ok_lt k
        refine wp_iinc dL_law_1276 rfl ic_6 (by exact Nat.le_of_ble_eq_true rfl) (L1 := [_, _, _, _]) rfl ?_
        refine wp_goto 18 dL_law_1279 (by decide) ?_
        refine wp_bud 3 476 ?_
        exact wp_wk (wkE <| wkE <| wkE <| wkE <| wkN) (hrec _ _ _ _ k)
      · replace k := ok_f c_583 k
        refine wp_iconst dL_law_1274 ic_0 ?_
        refine wp_iret rfl rfl dL_law_1275 ?_
        exact hret _ _ (ok_some k)
    replace k := ok_f c_576 k
    refine wp_tabOut 1276 dL_law_33 (tab_out (n := 41) (fun i hi => ?_)) (by decide) ?_
    · match i, hi with
      | 0, _ => exact ti_ne c_4 (by decide)
      | 1, _ => exact ti_ne c_21 (by decide)
      | 2, _ => exact ti_ne c_42 (by decide)
      | 3, _ => exact ti_ne c_59 (by decide)
      | 4, _ => exact ti_ne c_76 (by decide)
      | 5, _ => exact ti_ne c_93 (by decide)
      | 6, _ => exact ti_ne c_110 (by decide)
      | 7, _ => exact ti_ne c_139 (by decide)
      | 8, _ => exact ti_ne c_152 (by decide)
      | 9, _ => exact ti_ne c_161 (by decide)
      | 10, _ => exact ti_ne c_170 (by decide)
      | 11, _ => exact ti_ne c_179 (by decide)
      | 12, _ => exact ti_ne c_188 (by decide)
      | 13, _ => exact ti_ne c_197 (by decide)
      | 14, _ => exact ti_ne c_206 (by decide)
      | 15, _ => exact ti_ne c_219 (by decide)
      | 16, _ => exact ti_ne c_236 (by decide)
      | 17, _ => exact ti_ne c_249 (by decide)
      | 18, _ => exact ti_ne c_266 (by decide)
      | 19, _ => exact ti_ne c_275 (by decide)
      | 20, _ => exact ti_ne c_284 (by decide)
      | 21, _ => exact ti_ne c_301 (by decide)
      | 22, _ => exact ti_ne c_314 (by decide)
      | 23, _ => exact ti_ne c_327 (by decide)
      | 24, _ => exact ti_ne c_344 (by decide)
      | 25, _ => exact ti_ne c_361 (by decide)
      | 26, _ => exact ti_ne c_382 (by decide)
      | 27, _ => exact ti_ne c_395 (by decide)
      | 28, _ => exact ti_ne c_408 (by decide)
      | 29, _ => exact ti_ne c_425 (by decide)
      | 30, _ => exact ti_ne c_438 (by decide)
      | 31, _ => exact ti_ne c_447 (by decide)
      | 32, _ => exact ti_ne c_456 (by decide)
      | 33, _ => exact ti_ne c_469 (by decide)
      | 34, _ => exact ti_ne c_486 (by decide)
      | 35, _ => exact ti_ne c_503 (by decide)
      | 36, _ => exact ti_ne c_520 (by decide)
      | 37, _ => exact ti_ne c_537 (by decide)
      | 38, _ => exact ti_ne c_550 (by decide)
      | 39, _ => exact ti_ne c_563 (by decide)
      | 40, _ => exact ti_ne c_576 (by decide)
      | i + 41, hi => exact absurd hi (by omega)
    replace k := ok_lt k
    refine wp_iinc dL_law_1276 rfl ic_6 (by exact Nat.le_of_ble_eq_true rfl) (L1 := [_, _, _, _]) rfl ?_
    refine wp_goto 18 dL_law_1279 (by decide) ?_
    refine wp_bud 3 476 ?_
    exact wp_wk (wkE <| wkE <| wkE <| wkE <| wkN) (hrec _ _ _ _ k)
def f_L_loop (S : SH) (Ls : Nat) (xs : Nat → Int32) : Nat → Nat → Nat → Int32 → AH → Option ((Int32 ⊕ Unit) × AH)
  | 0, _, _, _, _ => none
  | n + 1, r1, r2, x3, h => f_L_law_l18b S Ls xs (f_L_loop S Ls xs n) r1 r2 x3 h
theorem s_L_loop {S : SH} {Ls : Nat} {xs : Nat → Int32} {d cb sb : Nat} {Q : Option Value → AH → Prop} (hd : 86 ≤ d) {K : (Int32 ⊕ Unit) → AH → Prop} (hret : ∀ (w : Int32) (h' : AH), K (.inl w) h' → Q (some (.int w)) h') (hex : ∀  (h' : AH), K (.inr ()) h' → WP S (M_law Ls xs) d cb sb Q 1282 [.double 0, JK, JK, JK] [] h') : ∀ (n : Nat) (r1 : Nat) (r2 : Nat) (x3 : Int32) (h : AH), ok (f_L_loop S Ls xs n r1 r2 x3 h) K → WP S (M_law Ls xs) d (cb + n * 3) (sb + n * 476) Q 18 [.double 0, .ref r1, .ref r2, .int x3] [] h := by
  intro n
  induction n with
  | zero => intro r1 r2 x3 h k; exact ok_none k
  | succ n ih =>
    intro r1 r2 x3 h k
    have z := s_L_law_l18b (cb := cb + n * 3) (sb := sb + n * 476) hd hret (fun h' k => wp_bud (n * 3) (n * 476) (hex h' k)) (fun r1 r2 x3 h k => ih r1 r2 x3 h k) k
    rwa [show cb + n * 3 + 3 = cb + (n + 1) * 3 by omega, show sb + n * 476 + 476 = sb + (n + 1) * 476 by omega] at z

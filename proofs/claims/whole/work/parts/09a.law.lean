theorem k1_7 : Int32.ofInt (7) = (7 : Int32) := by decide +kernel
theorem tb_39 {x : Int32} (c0 : ¬ x = 0) (c1 : ¬ x = 1) (c2 : ¬ x = 2) (c3 : ¬ x = 3) (c4 : ¬ x = 4) (c5 : ¬ x = 5) (c6 : ¬ x = 6) (c7 : ¬ x = 7) (c8 : ¬ x = 8) (c9 : ¬ x = 9) (c10 : ¬ x = 10) (c11 : ¬ x = 11) (c12 : ¬ x = 12) (c13 : ¬ x = 13) (c14 : ¬ x = 14) (c15 : ¬ x = 15) (c16 : ¬ x = 16) (c17 : ¬ x = 17) (c18 : ¬ x = 18) (c19 : ¬ x = 19) (c20 : ¬ x = 20) (c21 : ¬ x = 21) (c22 : ¬ x = 22) (c23 : ¬ x = 23) (c24 : ¬ x = 24) (c25 : ¬ x = 25) (c26 : ¬ x = 26) (c27 : ¬ x = 27) (c28 : ¬ x = 28) (c29 : ¬ x = 29) (c30 : ¬ x = 30) (c31 : ¬ x = 31) (c32 : ¬ x = 32) (c33 : ¬ x = 33) (c34 : ¬ x = 34) (c35 : ¬ x = 35) (c36 : ¬ x = 36) (c37 : ¬ x = 37) (c38 : ¬ x = 38) : x.toInt < 0 ∨ (38 : Int) < x.toInt := by
  have h := tb_of (x := x) (n := 39) (by decide) (fun j hj => match j, hj with
    | 0, _ => c0
    | 1, _ => c1
    | 2, _ => c2
    | 3, _ => c3
    | 4, _ => c4
    | 5, _ => c5
    | 6, _ => c6
    | 7, _ => c7
    | 8, _ => c8
    | 9, _ => c9
    | 10, _ => c10
    | 11, _ => c11
    | 12, _ => c12
    | 13, _ => c13
    | 14, _ => c14
    | 15, _ => c15
    | 16, _ => c16
    | 17, _ => c17
    | 18, _ => c18
    | 19, _ => c19
    | 20, _ => c20
    | 21, _ => c21
    | 22, _ => c22
    | 23, _ => c23
    | 24, _ => c24
    | 25, _ => c25
    | 26, _ => c26
    | 27, _ => c27
    | 28, _ => c28
    | 29, _ => c29
    | 30, _ => c30
    | 31, _ => c31
    | 32, _ => c32
    | 33, _ => c33
    | 34, _ => c34
    | 35, _ => c35
    | 36, _ => c36
    | 37, _ => c37
    | 38, _ => c38
    | j + 39, hj => absurd hj (by omega))
  exact h
def lb_law (Ln : Nat) (xs : Nat → Int32) (x3 : Int32) (h : PH) : Option ((Int32 × PH) ⊕ Unit) :=
  if ((Int32.ofNat Ln) - 7) < x3 then (
  some (.inr ()))
  else (
  ga_i x3 Ln (
  if ((xs x3.toNatClampNeg) &&& 63) = 0 then (
  ga_i (x3 + 1) Ln (
  ga_i (x3 + 2) Ln (
  ga_i (x3 + 3) Ln (
  ga_i (x3 + 4) Ln (
  bd_2 (f_X11_house (xs (x3 + 1).toNatClampNeg) (xs (x3 + 2).toNatClampNeg) (xs (x3 + 3).toNatClampNeg) (xs (x3 + 4).toNatClampNeg) h) fun r_45 h_46 =>
  ga_i (x3 + 1) Ln (
  ga_i (x3 + 2) Ln (
  ga_i (x3 + 3) Ln (
  ga_i (x3 + 4) Ln (
  bd_2 (f_X12_house (xs (x3 + 1).toNatClampNeg) (xs (x3 + 2).toNatClampNeg) (xs (x3 + 3).toNatClampNeg) (xs (x3 + 4).toNatClampNeg) h_46) fun r_51 h_52 =>
  if r_45 = r_51 then (
  lt_b (x3 + 7) fun x3_53 =>
  some (.inl (x3_53, h_52)))
  else (
  none))))))))))
  else (
  if ((xs x3.toNatClampNeg) &&& 63) = 1 then (
  ga_i (x3 + 1) Ln (
  ga_i (x3 + 2) Ln (
  bd_1 (f_X11_ofRun (xs (x3 + 1).toNatClampNeg) (xs (x3 + 2).toNatClampNeg) h) fun r_57 =>
  ga_i (x3 + 1) Ln (
  ga_i (x3 + 2) Ln (
  bd_1 (f_X12_ofRun (xs (x3 + 1).toNatClampNeg) (xs (x3 + 2).toNatClampNeg) h) fun r_60 =>
  if r_57 = r_60 then (
  lt_b (x3 + 7) fun x3_61 =>
  some (.inl (x3_61, h)))
  else (
  none))))))
  else (
  if ((xs x3.toNatClampNeg) &&& 63) = 2 then (
  ga_i (x3 + 1) Ln (
  ga_i (x3 + 2) Ln (
  if (xs (x3 + 2).toNatClampNeg) = 0 then (
  bd_2 (f_X11_shut (xs (x3 + 1).toNatClampNeg) 0 h) fun r_65 h_66 =>
  ga_i (x3 + 1) Ln (
  ga_i (x3 + 2) Ln (
  if (xs (x3 + 2).toNatClampNeg) = 0 then (
  bd_2 (f_X12_shut (xs (x3 + 1).toNatClampNeg) 0 h_66) fun r_69 h_70 =>
  if r_65 = r_69 then (
  lt_b (x3 + 7) fun x3_71 =>
  some (.inl (x3_71, h_70)))
  else (
  none))
  else (
  bd_2 (f_X12_shut (xs (x3 + 1).toNatClampNeg) 1 h_66) fun r_73 h_74 =>
  if r_65 = r_73 then (
  lt_b (x3 + 7) fun x3_75 =>
  some (.inl (x3_75, h_74)))
  else (
  none)))))
  else (
  bd_2 (f_X11_shut (xs (x3 + 1).toNatClampNeg) 1 h) fun r_78 h_79 =>
  ga_i (x3 + 1) Ln (
  ga_i (x3 + 2) Ln (
  if (xs (x3 + 2).toNatClampNeg) = 0 then (
  bd_2 (f_X12_shut (xs (x3 + 1).toNatClampNeg) 0 h_79) fun r_82 h_83 =>
  if r_78 = r_82 then (
  lt_b (x3 + 7) fun x3_84 =>
  some (.inl (x3_84, h_83)))
  else (
  none))
  else (
  bd_2 (f_X12_shut (xs (x3 + 1).toNatClampNeg) 1 h_79) fun r_86 h_87 =>
  if r_78 = r_86 then (
  lt_b (x3 + 7) fun x3_88 =>
  some (.inl (x3_88, h_87)))
  else (
  none))))))))
  else (
  if ((xs x3.toNatClampNeg) &&& 63) = 3 then (
  ga_i (x3 + 1) Ln (
  ga_i (x3 + 2) Ln (
  ga_i (x3 + 3) Ln (
  bd_1 (f_X11_run (xs (x3 + 1).toNatClampNeg) (xs (x3 + 2).toNatClampNeg) (xs (x3 + 3).toNatClampNeg) h) fun r_95 =>
  ga_i (x3 + 1) Ln (
  ga_i (x3 + 2) Ln (
  ga_i (x3 + 3) Ln (
  bd_1 (f_X12_run (xs (x3 + 1).toNatClampNeg) (xs (x3 + 2).toNatClampNeg) (xs (x3 + 3).toNatClampNeg) h) fun r_99 =>
  if r_95 = r_99 then (
  lt_b (x3 + 7) fun x3_100 =>
  some (.inl (x3_100, h)))
  else (
  none))))))))
  else (
  if ((xs x3.toNatClampNeg) &&& 63) = 4 then (
  ga_i (x3 + 1) Ln (
  ga_i (x3 + 2) Ln (
  ga_i (x3 + 3) Ln (
  bd_1 (f_X11_along (xs (x3 + 1).toNatClampNeg) (xs (x3 + 2).toNatClampNeg) (xs (x3 + 3).toNatClampNeg) h) fun r_105 =>
  ga_i (x3 + 1) Ln (
  ga_i (x3 + 2) Ln (
  ga_i (x3 + 3) Ln (
  bd_1 (f_X12_along (xs (x3 + 1).toNatClampNeg) (xs (x3 + 2).toNatClampNeg) (xs (x3 + 3).toNatClampNeg) h) fun r_109 =>
  if r_105 = r_109 then (
  lt_b (x3 + 7) fun x3_110 =>
  some (.inl (x3_110, h)))
  else (
  none))))))))
  else (
  if ((xs x3.toNatClampNeg) &&& 63) = 5 then (
  ga_i (x3 + 1) Ln (
  bd_2 (f_X11_box (xs (x3 + 1).toNatClampNeg) h) fun r_113 h_114 =>
  ga_i (x3 + 1) Ln (
  bd_2 (f_X12_box (xs (x3 + 1).toNatClampNeg) h_114) fun r_116 h_117 =>
  if r_113 = r_116 then (
  lt_b (x3 + 7) fun x3_118 =>
  some (.inl (x3_118, h_117)))
  else (
  none))))
  else (
  if ((xs x3.toNatClampNeg) &&& 63) = 6 then (
  ga_i (x3 + 1) Ln (
  ga_i (x3 + 2) Ln (
  ga_i (x3 + 3) Ln (
  bd_2 (f_X11_point (xs (x3 + 1).toNatClampNeg) (xs (x3 + 2).toNatClampNeg) (xs (x3 + 3).toNatClampNeg) h) fun r_123 h_124 =>
  ga_i (x3 + 1) Ln (
  ga_i (x3 + 2) Ln (
  ga_i (x3 + 3) Ln (
  bd_2 (f_X12_point (xs (x3 + 1).toNatClampNeg) (xs (x3 + 2).toNatClampNeg) (xs (x3 + 3).toNatClampNeg) h_124) fun r_128 h_129 =>
  if r_123 = r_128 then (
  lt_b (x3 + 7) fun x3_130 =>
  some (.inl (x3_130, h_129)))
  else (
  none))))))))
  else (
  if ((xs x3.toNatClampNeg) &&& 63) = 7 then (
  ga_i (x3 + 1) Ln (
  ga_i (x3 + 2) Ln (
  bd_1 (f_X11_ofPoint (xs (x3 + 1).toNatClampNeg) (xs (x3 + 2).toNatClampNeg) h) fun r_134 =>
  ga_i (x3 + 1) Ln (
  ga_i (x3 + 2) Ln (
  bd_1 (f_X12_ofPoint (xs (x3 + 1).toNatClampNeg) (xs (x3 + 2).toNatClampNeg) h) fun r_137 =>
  if r_134 = r_137 then (
  lt_b (x3 + 7) fun x3_138 =>
  some (.inl (x3_138, h)))
  else (
  none))))))
  else (
  if ((xs x3.toNatClampNeg) &&& 63) = 8 then (
  ga_i (x3 + 1) Ln (
  ga_i (x3 + 2) Ln (
  bd_2 (f_X11_load (xs (x3 + 1).toNatClampNeg) (xs (x3 + 2).toNatClampNeg) h) fun r_142 h_143 =>
  ga_i (x3 + 1) Ln (
  ga_i (x3 + 2) Ln (
  bd_2 (f_X12_load (xs (x3 + 1).toNatClampNeg) (xs (x3 + 2).toNatClampNeg) h_143) fun r_146 h_147 =>
  if r_142 = r_146 then (
  lt_b (x3 + 7) fun x3_148 =>
  some (.inl (x3_148, h_147)))
  else (
  none))))))
  else (
  if ((xs x3.toNatClampNeg) &&& 63) = 9 then (
  ga_i (x3 + 1) Ln (
  ga_i (x3 + 2) Ln (
  ga_i (x3 + 3) Ln (
  ga_i (x3 + 4) Ln (
  ga_i (x3 + 5) Ln (
  ga_i (x3 + 6) Ln (
  bd_2 (f_X11_way (xs (x3 + 1).toNatClampNeg) (xs (x3 + 2).toNatClampNeg) (xs (x3 + 3).toNatClampNeg) (xs (x3 + 4).toNatClampNeg) (xs (x3 + 5).toNatClampNeg) (xs (x3 + 6).toNatClampNeg) h) fun r_157 h_156 =>
  ga_i (x3 + 1) Ln (
  ga_i (x3 + 2) Ln (
  ga_i (x3 + 3) Ln (
  ga_i (x3 + 4) Ln (
  ga_i (x3 + 5) Ln (
  ga_i (x3 + 6) Ln (
  bd_2 (f_X12_way (xs (x3 + 1).toNatClampNeg) (xs (x3 + 2).toNatClampNeg) (xs (x3 + 3).toNatClampNeg) (xs (x3 + 4).toNatClampNeg) (xs (x3 + 5).toNatClampNeg) (xs (x3 + 6).toNatClampNeg) h_156) fun r_164 h_165 =>
  if r_157 = r_164 then (
  lt_b (x3 + 7) fun x3_166 =>
  some (.inl (x3_166, h_165)))
  else (
  none))))))))))))))
  else (
  if ((xs x3.toNatClampNeg) &&& 63) = 10 then (
  ga_i (x3 + 1) Ln (
  bd_2 (f_X11_away (xs (x3 + 1).toNatClampNeg) h) fun r_169 h_170 =>
  ga_i (x3 + 1) Ln (
  bd_2 (f_X12_away (xs (x3 + 1).toNatClampNeg) h_170) fun r_172 h_173 =>
  if r_169 = r_172 then (
  lt_b (x3 + 7) fun x3_174 =>
  some (.inl (x3_174, h_173)))
  else (
  none))))
  else (
  if ((xs x3.toNatClampNeg) &&& 63) = 11 then (
  ga_i (x3 + 1) Ln (
  ga_i (x3 + 2) Ln (
  bd_1 (f_X11_ofWay (xs (x3 + 1).toNatClampNeg) (xs (x3 + 2).toNatClampNeg) h) fun r_178 =>
  ga_i (x3 + 1) Ln (
  ga_i (x3 + 2) Ln (
  bd_1 (f_X12_ofWay (xs (x3 + 1).toNatClampNeg) (xs (x3 + 2).toNatClampNeg) h) fun r_181 =>
  if r_178 = r_181 then (
  lt_b (x3 + 7) fun x3_182 =>
  some (.inl (x3_182, h)))
  else (
  none))))))
  else (
  if ((xs x3.toNatClampNeg) &&& 63) = 12 then (
  ga_i (x3 + 1) Ln (
  ga_i (x3 + 2) Ln (
  bd_1 (f_X11_cable (xs (x3 + 1).toNatClampNeg) (xs (x3 + 2).toNatClampNeg) h) fun r_186 =>
  ga_i (x3 + 1) Ln (
  ga_i (x3 + 2) Ln (
  bd_1 (f_X12_cable (xs (x3 + 1).toNatClampNeg) (xs (x3 + 2).toNatClampNeg) h) fun r_189 =>
  if r_186 = r_189 then (
  lt_b (x3 + 7) fun x3_190 =>
  some (.inl (x3_190, h)))
  else (
  none))))))
  else (
  if ((xs x3.toNatClampNeg) &&& 63) = 13 then (
  ga_i (x3 + 1) Ln (
  ga_i (x3 + 2) Ln (
  ga_i (x3 + 3) Ln (
  bd_1 (f_X11_carries (xs (x3 + 1).toNatClampNeg) (xs (x3 + 2).toNatClampNeg) (xs (x3 + 3).toNatClampNeg) h) fun r_195 =>
  ga_i (x3 + 1) Ln (
  ga_i (x3 + 2) Ln (
  ga_i (x3 + 3) Ln (
  bd_2 (f_X12_carries (xs (x3 + 1).toNatClampNeg) (xs (x3 + 2).toNatClampNeg) (xs (x3 + 3).toNatClampNeg) h) fun r_199 h_200 =>
  if (lg_cmp r_195 r_199) = 0 then (
  lt_b (x3 + 7) fun x3_201 =>
  some (.inl (x3_201, h_200)))
  else (
  none))))))))
  else (
  if ((xs x3.toNatClampNeg) &&& 63) = 14 then (
  ga_i (x3 + 1) Ln (
  ga_i (x3 + 2) Ln (
  ga_i (x3 + 3) Ln (
  bd_1 (f_X11_drop (xs (x3 + 1).toNatClampNeg) (xs (x3 + 2).toNatClampNeg) (xs (x3 + 3).toNatClampNeg) h) fun r_206 =>
  ga_i (x3 + 1) Ln (
  ga_i (x3 + 2) Ln (
  ga_i (x3 + 3) Ln (
  bd_2 (f_X12_drop (xs (x3 + 1).toNatClampNeg) (xs (x3 + 2).toNatClampNeg) (xs (x3 + 3).toNatClampNeg) h) fun r_210 h_211 =>
  if (lg_cmp r_206 r_210) = 0 then (
  lt_b (x3 + 7) fun x3_212 =>
  some (.inl (x3_212, h_211)))
  else (
  none))))))))
  else (
  if ((xs x3.toNatClampNeg) &&& 63) = 15 then (
  ga_i (x3 + 1) Ln (
  bd_1 (f_X11_tooMuch (xs (x3 + 1).toNatClampNeg) h) fun r_215 =>
  ga_i (x3 + 1) Ln (
  bd_2 (f_X12_tooMuch (xs (x3 + 1).toNatClampNeg) h) fun r_217 h_218 =>
  if r_215 = r_217 then (
  lt_b (x3 + 7) fun x3_219 =>
  some (.inl (x3_219, h_218)))
  else (
  none))))
  else (
  if ((xs x3.toNatClampNeg) &&& 63) = 16 then (
  ga_i (x3 + 1) Ln (
  ga_i (x3 + 2) Ln (
  bd_2 (f_X11_least (xs (x3 + 1).toNatClampNeg) (xs (x3 + 2).toNatClampNeg) h) fun r_223 h_224 =>
  ga_i (x3 + 1) Ln (
  ga_i (x3 + 2) Ln (
  bd_2 (f_X12_least (xs (x3 + 1).toNatClampNeg) (xs (x3 + 2).toNatClampNeg) h_224) fun r_227 h_228 =>
  if r_223 = r_227 then (
  lt_b (x3 + 7) fun x3_229 =>
  some (.inl (x3_229, h_228)))
  else (
  none))))))
  else (
  if ((xs x3.toNatClampNeg) &&& 63) = 17 then (
  ga_i (x3 + 1) Ln (
  ga_i (x3 + 2) Ln (
  ga_i (x3 + 3) Ln (
  bd_2 (f_X11_order (xs (x3 + 1).toNatClampNeg) (xs (x3 + 2).toNatClampNeg) (xs (x3 + 3).toNatClampNeg) h) fun r_234 h_235 =>
  ga_i (x3 + 1) Ln (
  ga_i (x3 + 2) Ln (
  ga_i (x3 + 3) Ln (
  bd_2 (f_X12_order (xs (x3 + 1).toNatClampNeg) (xs (x3 + 2).toNatClampNeg) (xs (x3 + 3).toNatClampNeg) h_235) fun r_239 h_240 =>
  if r_234 = r_239 then (
  lt_b (x3 + 7) fun x3_241 =>
  some (.inl (x3_241, h_240)))
  else (
  none))))))))
  else (
  if ((xs x3.toNatClampNeg) &&& 63) = 18 then (
  ga_i (x3 + 1) Ln (
  ga_i (x3 + 2) Ln (
  ga_i (x3 + 3) Ln (
  if (xs (x3 + 3).toNatClampNeg) = 0 then (
  bd_2 (f_X11_plan (xs (x3 + 1).toNatClampNeg) (xs (x3 + 2).toNatClampNeg) 0 h) fun r_246 h_247 =>
  ga_i (x3 + 1) Ln (
  ga_i (x3 + 2) Ln (
  ga_i (x3 + 3) Ln (
  if (xs (x3 + 3).toNatClampNeg) = 0 then (
  bd_2 (f_X12_plan (xs (x3 + 1).toNatClampNeg) (xs (x3 + 2).toNatClampNeg) 0 h_247) fun r_251 h_252 =>
  if r_246 = r_251 then (
  lt_b (x3 + 7) fun x3_253 =>
  some (.inl (x3_253, h_252)))
  else (
  none))
  else (
  bd_2 (f_X12_plan (xs (x3 + 1).toNatClampNeg) (xs (x3 + 2).toNatClampNeg) 1 h_247) fun r_255 h_256 =>
  if r_246 = r_255 then (
  lt_b (x3 + 7) fun x3_257 =>
  some (.inl (x3_257, h_256)))
  else (
  none))))))
  else (
  bd_2 (f_X11_plan (xs (x3 + 1).toNatClampNeg) (xs (x3 + 2).toNatClampNeg) 1 h) fun r_260 h_261 =>
  ga_i (x3 + 1) Ln (
  ga_i (x3 + 2) Ln (
  ga_i (x3 + 3) Ln (
  if (xs (x3 + 3).toNatClampNeg) = 0 then (
  bd_2 (f_X12_plan (xs (x3 + 1).toNatClampNeg) (xs (x3 + 2).toNatClampNeg) 0 h_261) fun r_265 h_266 =>
  if r_260 = r_265 then (
  lt_b (x3 + 7) fun x3_267 =>
  some (.inl (x3_267, h_266)))
  else (
  none))
  else (
  bd_2 (f_X12_plan (xs (x3 + 1).toNatClampNeg) (xs (x3 + 2).toNatClampNeg) 1 h_261) fun r_269 h_270 =>
  if r_260 = r_269 then (
  lt_b (x3 + 7) fun x3_271 =>
  some (.inl (x3_271, h_270)))
  else (
  none))))))))))
  else (
  if ((xs x3.toNatClampNeg) &&& 63) = 19 then (
  ga_i (x3 + 1) Ln (
  ga_i (x3 + 2) Ln (
  ga_i (x3 + 3) Ln (
  if (xs (x3 + 3).toNatClampNeg) = 0 then (
  ga_i (x3 + 4) Ln (
  bd_2 (f_X11_on (xs (x3 + 1).toNatClampNeg) (xs (x3 + 2).toNatClampNeg) 0 (xs (x3 + 4).toNatClampNeg) h) fun r_279 h_280 =>
  ga_i (x3 + 1) Ln (
  ga_i (x3 + 2) Ln (
  ga_i (x3 + 3) Ln (
  if (xs (x3 + 3).toNatClampNeg) = 0 then (
  ga_i (x3 + 4) Ln (
  bd_2 (f_X12_on (xs (x3 + 1).toNatClampNeg) (xs (x3 + 2).toNatClampNeg) 0 (xs (x3 + 4).toNatClampNeg) h_280) fun r_285 h_286 =>
  if r_279 = r_285 then (
  lt_b (x3 + 7) fun x3_287 =>
  some (.inl (x3_287, h_286)))
  else (
  none)))
  else (
  ga_i (x3 + 4) Ln (
  bd_2 (f_X12_on (xs (x3 + 1).toNatClampNeg) (xs (x3 + 2).toNatClampNeg) 1 (xs (x3 + 4).toNatClampNeg) h_280) fun r_290 h_291 =>
  if r_279 = r_290 then (
  lt_b (x3 + 7) fun x3_292 =>
  some (.inl (x3_292, h_291)))
  else (
  none))))))))
  else (
  ga_i (x3 + 4) Ln (
  bd_2 (f_X11_on (xs (x3 + 1).toNatClampNeg) (xs (x3 + 2).toNatClampNeg) 1 (xs (x3 + 4).toNatClampNeg) h) fun r_296 h_297 =>
  ga_i (x3 + 1) Ln (
  ga_i (x3 + 2) Ln (
  ga_i (x3 + 3) Ln (
  if (xs (x3 + 3).toNatClampNeg) = 0 then (
  ga_i (x3 + 4) Ln (
  bd_2 (f_X12_on (xs (x3 + 1).toNatClampNeg) (xs (x3 + 2).toNatClampNeg) 0 (xs (x3 + 4).toNatClampNeg) h_297) fun r_302 h_303 =>
  if r_296 = r_302 then (
  lt_b (x3 + 7) fun x3_304 =>
  some (.inl (x3_304, h_303)))
  else (
  none)))
  else (
  ga_i (x3 + 4) Ln (
  bd_2 (f_X12_on (xs (x3 + 1).toNatClampNeg) (xs (x3 + 2).toNatClampNeg) 1 (xs (x3 + 4).toNatClampNeg) h_297) fun r_307 h_308 =>
  if r_296 = r_307 then (
  lt_b (x3 + 7) fun x3_309 =>
  some (.inl (x3_309, h_308)))
  else (
  none))))))))))))
  else (
  if ((xs x3.toNatClampNeg) &&& 63) = 20 then (
  ga_i (x3 + 1) Ln (
  ga_i (x3 + 2) Ln (
  ga_i (x3 + 3) Ln (
  if (xs (x3 + 3).toNatClampNeg) = 0 then (
  bd_2 (f_X11_best (xs (x3 + 1).toNatClampNeg) (xs (x3 + 2).toNatClampNeg) 0 h) fun r_316 h_317 =>
  ga_i (x3 + 1) Ln (
  ga_i (x3 + 2) Ln (
  ga_i (x3 + 3) Ln (
  if (xs (x3 + 3).toNatClampNeg) = 0 then (
  bd_2 (f_X12_best (xs (x3 + 1).toNatClampNeg) (xs (x3 + 2).toNatClampNeg) 0 h_317) fun r_321 h_322 =>
  if r_316 = r_321 then (
  lt_b (x3 + 7) fun x3_323 =>
  some (.inl (x3_323, h_322)))
  else (
  none))
  else (
  bd_2 (f_X12_best (xs (x3 + 1).toNatClampNeg) (xs (x3 + 2).toNatClampNeg) 1 h_317) fun r_325 h_326 =>
  if r_316 = r_325 then (
  lt_b (x3 + 7) fun x3_327 =>
  some (.inl (x3_327, h_326)))
  else (
  none))))))
  else (
  bd_2 (f_X11_best (xs (x3 + 1).toNatClampNeg) (xs (x3 + 2).toNatClampNeg) 1 h) fun r_330 h_331 =>
  ga_i (x3 + 1) Ln (
  ga_i (x3 + 2) Ln (
  ga_i (x3 + 3) Ln (
  if (xs (x3 + 3).toNatClampNeg) = 0 then (
  bd_2 (f_X12_best (xs (x3 + 1).toNatClampNeg) (xs (x3 + 2).toNatClampNeg) 0 h_331) fun r_335 h_336 =>
  if r_330 = r_335 then (
  lt_b (x3 + 7) fun x3_337 =>
  some (.inl (x3_337, h_336)))
  else (
  none))
  else (
  bd_2 (f_X12_best (xs (x3 + 1).toNatClampNeg) (xs (x3 + 2).toNatClampNeg) 1 h_331) fun r_339 h_340 =>
  if r_330 = r_339 then (
  lt_b (x3 + 7) fun x3_341 =>
  some (.inl (x3_341, h_340)))
  else (
  none))))))))))
  else (
  if ((xs x3.toNatClampNeg) &&& 63) = 21 then (
  ga_i (x3 + 1) Ln (
  ga_i (x3 + 2) Ln (
  ga_i (x3 + 3) Ln (
  ga_i (x3 + 4) Ln (
  if (xs (x3 + 4).toNatClampNeg) = 0 then (
  bd_2 (f_X11_costs (xs (x3 + 1).toNatClampNeg) (xs (x3 + 2).toNatClampNeg) (xs (x3 + 3).toNatClampNeg) 0 h) fun r_349 h_350 =>
  ga_i (x3 + 1) Ln (
  ga_i (x3 + 2) Ln (
  ga_i (x3 + 3) Ln (
  ga_i (x3 + 4) Ln (
  if (xs (x3 + 4).toNatClampNeg) = 0 then (
  bd_2 (f_X12_costs (xs (x3 + 1).toNatClampNeg) (xs (x3 + 2).toNatClampNeg) (xs (x3 + 3).toNatClampNeg) 0 h_350) fun r_355 h_356 =>
  if r_349 = r_355 then (
  lt_b (x3 + 7) fun x3_357 =>
  some (.inl (x3_357, h_356)))
  else (
  none))
  else (
  bd_2 (f_X12_costs (xs (x3 + 1).toNatClampNeg) (xs (x3 + 2).toNatClampNeg) (xs (x3 + 3).toNatClampNeg) 1 h_350) fun r_359 h_360 =>
  if r_349 = r_359 then (
  lt_b (x3 + 7) fun x3_361 =>
  some (.inl (x3_361, h_360)))
  else (
  none)))))))
  else (
  bd_2 (f_X11_costs (xs (x3 + 1).toNatClampNeg) (xs (x3 + 2).toNatClampNeg) (xs (x3 + 3).toNatClampNeg) 1 h) fun r_364 h_365 =>
  ga_i (x3 + 1) Ln (
  ga_i (x3 + 2) Ln (
  ga_i (x3 + 3) Ln (
  ga_i (x3 + 4) Ln (
  if (xs (x3 + 4).toNatClampNeg) = 0 then (
  bd_2 (f_X12_costs (xs (x3 + 1).toNatClampNeg) (xs (x3 + 2).toNatClampNeg) (xs (x3 + 3).toNatClampNeg) 0 h_365) fun r_370 h_371 =>
  if r_364 = r_370 then (
  lt_b (x3 + 7) fun x3_372 =>
  some (.inl (x3_372, h_371)))
  else (
  none))
  else (
  bd_2 (f_X12_costs (xs (x3 + 1).toNatClampNeg) (xs (x3 + 2).toNatClampNeg) (xs (x3 + 3).toNatClampNeg) 1 h_365) fun r_374 h_375 =>
  if r_364 = r_374 then (
  lt_b (x3 + 7) fun x3_376 =>
  some (.inl (x3_376, h_375)))
  else (
  none))))))))))))
  else (
  if ((xs x3.toNatClampNeg) &&& 63) = 22 then (
  ga_i (x3 + 1) Ln (
  ga_i (x3 + 2) Ln (
  bd_2 (f_X11_cores (xs (x3 + 1).toNatClampNeg) (xs (x3 + 2).toNatClampNeg) h) fun r_382 h_383 =>
  ga_i (x3 + 1) Ln (
  ga_i (x3 + 2) Ln (
  bd_2 (f_X12_cores (xs (x3 + 1).toNatClampNeg) (xs (x3 + 2).toNatClampNeg) h_383) fun r_386 h_387 =>
  if r_382 = r_386 then (
  lt_b (x3 + 7) fun x3_388 =>
  some (.inl (x3_388, h_387)))
  else (
  none))))))
  else (
  if ((xs x3.toNatClampNeg) &&& 63) = 23 then (
  ga_i (x3 + 1) Ln (
  ga_i (x3 + 2) Ln (
  ga_i (x3 + 3) Ln (
  bd_2 (f_X11_door (xs (x3 + 1).toNatClampNeg) (xs (x3 + 2).toNatClampNeg) (xs (x3 + 3).toNatClampNeg) h) fun r_393 h_394 =>
  ga_i (x3 + 1) Ln (
  ga_i (x3 + 2) Ln (
  ga_i (x3 + 3) Ln (
  bd_2 (f_X12_door (xs (x3 + 1).toNatClampNeg) (xs (x3 + 2).toNatClampNeg) (xs (x3 + 3).toNatClampNeg) h_394) fun r_398 h_399 =>
  if r_393 = r_398 then (
  lt_b (x3 + 7) fun x3_400 =>
  some (.inl (x3_400, h_399)))
  else (
  none))))))))
  else (
  if ((xs x3.toNatClampNeg) &&& 63) = 24 then (
  ga_i (x3 + 1) Ln (
  ga_i (x3 + 2) Ln (
  bd_2 (f_X11_reading (xs (x3 + 1).toNatClampNeg) (xs (x3 + 2).toNatClampNeg) h) fun r_404 h_405 =>
  ga_i (x3 + 1) Ln (
  ga_i (x3 + 2) Ln (
  bd_2 (f_X12_reading (xs (x3 + 1).toNatClampNeg) (xs (x3 + 2).toNatClampNeg) h_405) fun r_408 h_409 =>
  if r_404 = r_408 then (
  lt_b (x3 + 7) fun x3_410 =>
  some (.inl (x3_410, h_409)))
  else (
  none))))))
  else (
  if ((xs x3.toNatClampNeg) &&& 63) = 25 then (
  ga_i (x3 + 1) Ln (
  bd_2 (f_X11_back (xs (x3 + 1).toNatClampNeg) h) fun r_413 h_414 =>
  ga_i (x3 + 1) Ln (
  bd_2 (f_X12_back (xs (x3 + 1).toNatClampNeg) h_414) fun r_416 h_417 =>
  if r_413 = r_416 then (
  lt_b (x3 + 7) fun x3_418 =>
  some (.inl (x3_418, h_417)))
  else (
  none))))
  else (
  if ((xs x3.toNatClampNeg) &&& 63) = 26 then (
  ga_i (x3 + 1) Ln (
  bd_2 (f_X11_fits (xs (x3 + 1).toNatClampNeg) h) fun r_421 h_422 =>
  ga_i (x3 + 1) Ln (
  bd_1 (f_X12_fits (xs (x3 + 1).toNatClampNeg) h_422) fun r_424 =>
  if r_421 = r_424 then (
  lt_b (x3 + 7) fun x3_425 =>
  some (.inl (x3_425, h_422)))
  else (
  none))))
  else (
  if ((xs x3.toNatClampNeg) &&& 63) = 27 then (
  bd_2 (f_X11_next h) fun r_427 h_428 =>
  bd_1 (f_X12_next h_428) fun r_429 =>
  if r_427 = r_429 then (
  lt_b (x3 + 7) fun x3_430 =>
  some (.inl (x3_430, h_428)))
  else (
  none))
  else (
  if ((xs x3.toNatClampNeg) &&& 63) = 28 then (
  ga_i (x3 + 1) Ln (
  ga_i (x3 + 2) Ln (
  ga_i (x3 + 3) Ln (
  bd_2 (f_X11_sheet (xs (x3 + 1).toNatClampNeg) (xs (x3 + 2).toNatClampNeg) (xs (x3 + 3).toNatClampNeg) h) fun r_435 h_436 =>
  ga_i (x3 + 1) Ln (
  ga_i (x3 + 2) Ln (
  ga_i (x3 + 3) Ln (
  bd_2 (f_X12_sheet (xs (x3 + 1).toNatClampNeg) (xs (x3 + 2).toNatClampNeg) (xs (x3 + 3).toNatClampNeg) h_436) fun r_440 h_441 =>
  if r_435 = r_440 then (
  lt_b (x3 + 7) fun x3_442 =>
  some (.inl (x3_442, h_441)))
  else (
  none))))))))
  else (
  if ((xs x3.toNatClampNeg) &&& 63) = 29 then (
  ga_i (x3 + 1) Ln (
  bd_2 (f_X11_lose (xs (x3 + 1).toNatClampNeg) h) fun r_445 h_446 =>
  ga_i (x3 + 1) Ln (
  bd_2 (f_X12_lose (xs (x3 + 1).toNatClampNeg) h_446) fun r_448 h_449 =>
  if r_445 = r_448 then (
  lt_b (x3 + 7) fun x3_450 =>
  some (.inl (x3_450, h_449)))
  else (
  none))))
  else (
  if ((xs x3.toNatClampNeg) &&& 63) = 30 then (
  ga_i (x3 + 1) Ln (
  ga_i (x3 + 2) Ln (
  ga_i (x3 + 3) Ln (
  bd_2 (f_X11_put (xs (x3 + 1).toNatClampNeg) (xs (x3 + 2).toNatClampNeg) (xs (x3 + 3).toNatClampNeg) h) fun r_455 h_456 =>
  ga_i (x3 + 1) Ln (
  ga_i (x3 + 2) Ln (
  ga_i (x3 + 3) Ln (
  bd_2 (f_X12_put (xs (x3 + 1).toNatClampNeg) (xs (x3 + 2).toNatClampNeg) (xs (x3 + 3).toNatClampNeg) h_456) fun r_460 h_461 =>
  if r_455 = r_460 then (
  lt_b (x3 + 7) fun x3_462 =>
  some (.inl (x3_462, h_461)))
  else (
  none))))))))
  else (
  if ((xs x3.toNatClampNeg) &&& 63) = 31 then (
  ga_i (x3 + 1) Ln (
  ga_i (x3 + 2) Ln (
  ga_i (x3 + 3) Ln (
  bd_2 (f_X11_cell (xs (x3 + 1).toNatClampNeg) (xs (x3 + 2).toNatClampNeg) (xs (x3 + 3).toNatClampNeg) h) fun r_467 h_468 =>
  ga_i (x3 + 1) Ln (
  ga_i (x3 + 2) Ln (
  ga_i (x3 + 3) Ln (
  bd_2 (f_X12_cell (xs (x3 + 1).toNatClampNeg) (xs (x3 + 2).toNatClampNeg) (xs (x3 + 3).toNatClampNeg) h_468) fun r_472 h_473 =>
  if (lg_cmp r_467 r_472) = 0 then (
  lt_b (x3 + 7) fun x3_474 =>
  some (.inl (x3_474, h_473)))
  else (
  none))))))))
  else (
  if ((xs x3.toNatClampNeg) &&& 63) = 32 then (
  ga_i (x3 + 1) Ln (
  ga_i (x3 + 2) Ln (
  ga_i (x3 + 3) Ln (
  ga_i (x3 + 4) Ln (
  ga_i (x3 + 5) Ln (
  bd_2 (f_X11_copy (xs (x3 + 1).toNatClampNeg) (xs (x3 + 2).toNatClampNeg) (xs (x3 + 3).toNatClampNeg) (xs (x3 + 4).toNatClampNeg) (xs (x3 + 5).toNatClampNeg) h) fun r_481 h_482 =>
  ga_i (x3 + 1) Ln (
  ga_i (x3 + 2) Ln (
  ga_i (x3 + 3) Ln (
  ga_i (x3 + 4) Ln (
  ga_i (x3 + 5) Ln (
  bd_2 (f_X12_copy (xs (x3 + 1).toNatClampNeg) (xs (x3 + 2).toNatClampNeg) (xs (x3 + 3).toNatClampNeg) (xs (x3 + 4).toNatClampNeg) (xs (x3 + 5).toNatClampNeg) h_482) fun r_488 h_489 =>
  if r_481 = r_488 then (
  lt_b (x3 + 7) fun x3_490 =>
  some (.inl (x3_490, h_489)))
  else (
  none))))))))))))
  else (
  if ((xs x3.toNatClampNeg) &&& 63) = 33 then (
  ga_i (x3 + 1) Ln (
  bd_2 (f_X11_tell (xs (x3 + 1).toNatClampNeg) h) fun r_493 h_494 =>
  ga_i (x3 + 1) Ln (
  bd_2 (f_X12_tell (xs (x3 + 1).toNatClampNeg) h_494) fun r_496 h_497 =>
  if r_493 = r_496 then (
  lt_b (x3 + 7) fun x3_498 =>
  some (.inl (x3_498, h_497)))
  else (
  none))))
  else (
  if ((xs x3.toNatClampNeg) &&& 63) = 34 then (
  ga_i (x3 + 1) Ln (
  bd_2 (f_X11_label (xs (x3 + 1).toNatClampNeg) h) fun r_501 h_502 =>
  ga_i (x3 + 1) Ln (
  bd_2 (f_X12_label (xs (x3 + 1).toNatClampNeg) h_502) fun r_504 h_505 =>
  if r_501 = r_504 then (
  lt_b (x3 + 7) fun x3_506 =>
  some (.inl (x3_506, h_505)))
  else (
  none))))
  else (
  if ((xs x3.toNatClampNeg) &&& 63) = 35 then (
  ga_i (x3 + 1) Ln (
  ga_i (x3 + 2) Ln (
  bd_2 (f_X11_as (xs (x3 + 1).toNatClampNeg) (xs (x3 + 2).toNatClampNeg) h) fun r_510 h_511 =>
  ga_i (x3 + 1) Ln (
  ga_i (x3 + 2) Ln (
  bd_2 (f_X12_as (xs (x3 + 1).toNatClampNeg) (xs (x3 + 2).toNatClampNeg) h_511) fun r_514 h_515 =>
  if r_510 = r_514 then (
  lt_b (x3 + 7) fun x3_516 =>
  some (.inl (x3_516, h_515)))
  else (
  none))))))
  else (
  if ((xs x3.toNatClampNeg) &&& 63) = 36 then (
  bd_1 (f_X11_trace h) fun r_518 =>
  bd_1 (f_X12_trace h) fun r_519 =>
  if r_518 = r_519 then (
  lt_b (x3 + 7) fun x3_520 =>
  some (.inl (x3_520, h)))
  else (
  none))
  else (
  if ((xs x3.toNatClampNeg) &&& 63) = 37 then (
  bd_1 (f_X11_fault h) fun r_522 =>
  bd_1 (f_X12_fault h) fun r_523 =>
  if r_522 = r_523 then (
  lt_b (x3 + 7) fun x3_524 =>
  some (.inl (x3_524, h)))
  else (
  none))
  else (
  if ((xs x3.toNatClampNeg) &&& 63) = 38 then (
  ga_i (x3 + 1) Ln (
  bd_1 (f_X11_many (xs (x3 + 1).toNatClampNeg) h) fun r_527 =>
  ga_i (x3 + 1) Ln (
  bd_1 (f_X12_many (xs (x3 + 1).toNatClampNeg) h) fun r_529 =>
  if r_527 = r_529 then (
  lt_b (x3 + 7) fun x3_530 =>
  some (.inl (x3_530, h)))
  else (
  none))))
  else (
  lt_b (x3 + 7) fun x3_532 =>
  some (.inl (x3_532, h)))))))))))))))))))))))))))))))))))))))))))
set_option maxRecDepth 100000 in
set_option maxHeartbeats 8000000 in
theorem law_loop {C : GC} (hC : Cx C cL_law 4 wsL_law2 RL (some .boolean) room_1) {Ln : Nat} {xs : Nat → Int32} (hX : cx_S C Ln xs) (hAR : ∀ n, 71 ≤ n → cx_AR C n) (I : Int32 → PH → Prop) (hIw : ∀ x h, I x h → wf_H l0_B h) (hIs : ∀ x h t, I x h → lb_law Ln xs x h = some (.inl t) → I t.1 t.2) (hk : ∀ (ce sl : Nat) (L : List (Nat × Value)) (h : PH), ce ≤ 600000 → sl ≤ 7302250 → Go l0_B C ce sl 1682 L [] h) : ∀ (n9 ce sl : Nat) (x3 : Int32) (h : PH) (y : Unit), lp_f (fun s => lb_law Ln xs s.1 s.2) n9 (x3, h) = some y → I x3 h → ce + 2 * n9 ≤ 600000 → sl + 9 * n9 ≤ 7302250 → Go l0_B C ce sl 18 [(0, .ref 1000000), (1, .ref 0), (2, .ref 43), (3, .int x3)] [] h := by
  intro n9
  induction n9 with
  | zero =>
    intro ce sl x3 h y hlp
    cases hlp
  | succ n9 ih =>
    intro ce sl x3 h y hlp hI hce hsl
    obtain ⟨k9, z, hk9, hf, hy⟩ := lp_e hlp
    cases hk9
    replace hf : lb_law Ln xs x3 h = some z := hf
    have hf0 := hf
    unfold lb_law at hf
    refine go_iload_n hC dL_law_18 rfl 3 rfl ?_
    refine go_aload_n hC dL_law_19 rfl 0 rfl ?_
    refine go_slen hC hX dL_law_20 ?_
    refine go_bipush hC dL_law_21 k8_7 ?_
    refine go_isub hC dL_law_23 ?_
    refine go_icmp_gt hC dL_law_24 (tgt := 1682) (by decide) (fun c_533 => ?_) (fun c_533 => ?_)
    · replace hf := if_t c_533 hf
      exact hk ce sl _ _ (by omega) (by omega)
    · replace hf := if_f c_533 hf
      refine go_aload_n hC dL_law_27 rfl 0 rfl ?_
      refine go_iload_n hC dL_law_28 rfl 3 rfl ?_
      obtain ⟨g_1, hf⟩ := ga_e hf
      refine go_sld hC hX g_1 dL_law_29 ?_
      refine go_bipush hC dL_law_30 k8_63 ?_
      refine go_iand hC dL_law_32 ?_
      by_cases c_2 : ((xs x3.toNatClampNeg) &&& 63) = 0
      · replace hf := if_t c_2 hf
        refine go_tab hC dL_law_33 c_2 (off := 171) (by decide) (by decide) (by decide) (tgt := 204) (by decide) ?_
        refine go_aload_n hC dL_law_204 rfl 1 rfl ?_
        refine go_aload_n hC dL_law_205 rfl 0 rfl ?_
        refine go_iload_n hC dL_law_206 rfl 3 rfl ?_
        refine go_iconst hC dL_law_207 k1_1 ?_
        refine go_iadd hC dL_law_208 ?_
        obtain ⟨g_41, hf⟩ := ga_e hf
        refine go_sld hC hX g_41 dL_law_209 ?_
        refine go_aload_n hC dL_law_210 rfl 0 rfl ?_
        refine go_iload_n hC dL_law_211 rfl 3 rfl ?_
        refine go_iconst hC dL_law_212 k1_2 ?_
        refine go_iadd hC dL_law_213 ?_
        obtain ⟨g_42, hf⟩ := ga_e hf
        refine go_sld hC hX g_42 dL_law_214 ?_
        refine go_aload_n hC dL_law_215 rfl 0 rfl ?_
        refine go_iload_n hC dL_law_216 rfl 3 rfl ?_
        refine go_iconst hC dL_law_217 k1_3 ?_
        refine go_iadd hC dL_law_218 ?_
        obtain ⟨g_43, hf⟩ := ga_e hf
        refine go_sld hC hX g_43 dL_law_219 ?_
        refine go_aload_n hC dL_law_220 rfl 0 rfl ?_
        refine go_iload_n hC dL_law_221 rfl 3 rfl ?_
        refine go_iconst hC dL_law_222 k1_4 ?_
        refine go_iadd hC dL_law_223 ?_
        obtain ⟨g_44, hf⟩ := ga_e hf
        refine go_sld hC hX g_44 dL_law_224 ?_
        obtain ⟨r_45, h_46, hc, hf⟩ := bd_e2 hf
        refine go_callV hC (c_X11_house (xs (x3 + 1).toNatClampNeg) (xs (x3 + 2).toNatClampNeg) (xs (x3 + 3).toNatClampNeg) (xs (x3 + 4).toNatClampNeg) h h_46 r_45 hc) (gi_l gL_law_X11_house) rfl ⟨rfl, rfl⟩ 4 e_X11_house ⟨Nat.le_of_ble_eq_true rfl, Nat.le_of_ble_eq_true rfl⟩ (b_0 _) rfl rfl (st := []) (st1 := [.int r_45]) rfl rfl (Nat.le_of_ble_eq_true rfl) ⟨by show ce ≤ 600000; omega, by show sl ≤ 7302250; omega⟩ dL_law_225 ?_
        refine go_aload_n hC dL_law_228 rfl 2 rfl ?_
        refine go_aload_n hC dL_law_229 rfl 0 rfl ?_
        refine go_iload_n hC dL_law_230 rfl 3 rfl ?_
        refine go_iconst hC dL_law_231 k1_1 ?_
        refine go_iadd hC dL_law_232 ?_
        obtain ⟨g_47, hf⟩ := ga_e hf
        refine go_sld hC hX g_47 dL_law_233 ?_
        refine go_aload_n hC dL_law_234 rfl 0 rfl ?_
        refine go_iload_n hC dL_law_235 rfl 3 rfl ?_
        refine go_iconst hC dL_law_236 k1_2 ?_
        refine go_iadd hC dL_law_237 ?_
        obtain ⟨g_48, hf⟩ := ga_e hf
        refine go_sld hC hX g_48 dL_law_238 ?_
        refine go_aload_n hC dL_law_239 rfl 0 rfl ?_
        refine go_iload_n hC dL_law_240 rfl 3 rfl ?_
        refine go_iconst hC dL_law_241 k1_3 ?_
        refine go_iadd hC dL_law_242 ?_
        obtain ⟨g_49, hf⟩ := ga_e hf
        refine go_sld hC hX g_49 dL_law_243 ?_
        refine go_aload_n hC dL_law_244 rfl 0 rfl ?_
        refine go_iload_n hC dL_law_245 rfl 3 rfl ?_
        refine go_iconst hC dL_law_246 k1_4 ?_
        refine go_iadd hC dL_law_247 ?_
        obtain ⟨g_50, hf⟩ := ga_e hf
        refine go_sld hC hX g_50 dL_law_248 ?_
        obtain ⟨r_51, h_52, hc, hf⟩ := bd_e2 hf
        refine go_callV hC (c_X12_house (xs (x3 + 1).toNatClampNeg) (xs (x3 + 2).toNatClampNeg) (xs (x3 + 3).toNatClampNeg) (xs (x3 + 4).toNatClampNeg) h_46 h_52 r_51 hc) (gi_l gL_law_X12_house) rfl ⟨rfl, rfl⟩ 4 e_X12_house ⟨Nat.le_of_ble_eq_true rfl, Nat.le_of_ble_eq_true rfl⟩ (b_43 _) rfl rfl (st := [.int r_45]) (st1 := [.int r_51, .int r_45]) rfl rfl (Nat.le_of_ble_eq_true rfl) ⟨by show ce ≤ 600000; omega, by show sl ≤ 7302250; omega⟩ dL_law_249 ?_
        refine go_icmp_eq hC dL_law_252 (tgt := 1676) (by decide) (fun c_54 => ?_) (fun c_54 => ?_)
        · replace hf := if_t c_54 hf
          obtain ⟨x3_53, ex3_53, hf⟩ := lt_e hf
          refine go_iinc hC dL_law_1676 3 rfl k1_7 ex3_53 (Nat.le_of_ble_eq_true rfl) rfl ?_
          refine go_goto hC dL_law_1679 (tgt := 18) (by decide) ?_
          obtain rfl := so_1 hf
          refine go_sub [1, 2, 3, 0] (L' := [(0, .ref 1000000), (1, .ref 0), (2, .ref 43), (3, .int x3_53)]) rfl ?_
          refine go_wid (k := ce + 2) (n := sl + 9) (by omega) (by omega) ?_
          exact ih (ce + 2) (sl + 9) x3_53 h_52 _ (lp_c hy) (hIs _ _ _ hI hf0) (by omega) (by omega)
        · replace hf := if_f c_54 hf
          refine go_iconst hC dL_law_255 k1_0 ?_
          cases hf
      · replace hf := if_f c_2 hf
        by_cases c_3 : ((xs x3.toNatClampNeg) &&& 63) = 1
        · replace hf := if_t c_3 hf
          refine go_tab hC dL_law_33 c_3 (off := 224) (by decide) (by decide) (by decide) (tgt := 257) (by decide) ?_
          refine go_aload_n hC dL_law_257 rfl 1 rfl ?_
          refine go_aload_n hC dL_law_258 rfl 0 rfl ?_
          refine go_iload_n hC dL_law_259 rfl 3 rfl ?_
          refine go_iconst hC dL_law_260 k1_1 ?_
          refine go_iadd hC dL_law_261 ?_
          obtain ⟨g_55, hf⟩ := ga_e hf
          refine go_sld hC hX g_55 dL_law_262 ?_
          refine go_aload_n hC dL_law_263 rfl 0 rfl ?_
          refine go_iload_n hC dL_law_264 rfl 3 rfl ?_
          refine go_iconst hC dL_law_265 k1_2 ?_
          refine go_iadd hC dL_law_266 ?_
          obtain ⟨g_56, hf⟩ := ga_e hf
          refine go_sld hC hX g_56 dL_law_267 ?_
          obtain ⟨r_57, hc, hf⟩ := bd_e1 hf
          refine go_callV hC (c_X11_ofRun (xs (x3 + 1).toNatClampNeg) (xs (x3 + 2).toNatClampNeg) h r_57 hc) (gi_l gL_law_X11_ofRun) rfl ⟨rfl, rfl⟩ 2 e_X11_ofRun ⟨Nat.le_of_ble_eq_true rfl, Nat.le_of_ble_eq_true rfl⟩ (b_0 _) rfl rfl (st := []) (st1 := [.int r_57]) rfl rfl (Nat.le_of_ble_eq_true rfl) ⟨by show ce ≤ 600000; omega, by show sl ≤ 7302250; omega⟩ dL_law_268 ?_
          refine go_aload_n hC dL_law_271 rfl 2 rfl ?_
          refine go_aload_n hC dL_law_272 rfl 0 rfl ?_
          refine go_iload_n hC dL_law_273 rfl 3 rfl ?_
          refine go_iconst hC dL_law_274 k1_1 ?_
          refine go_iadd hC dL_law_275 ?_
          obtain ⟨g_58, hf⟩ := ga_e hf
          refine go_sld hC hX g_58 dL_law_276 ?_
          refine go_aload_n hC dL_law_277 rfl 0 rfl ?_
          refine go_iload_n hC dL_law_278 rfl 3 rfl ?_
          refine go_iconst hC dL_law_279 k1_2 ?_
          refine go_iadd hC dL_law_280 ?_
          obtain ⟨g_59, hf⟩ := ga_e hf
          refine go_sld hC hX g_59 dL_law_281 ?_
          obtain ⟨r_60, hc, hf⟩ := bd_e1 hf
          refine go_callV hC (c_X12_ofRun (xs (x3 + 1).toNatClampNeg) (xs (x3 + 2).toNatClampNeg) h r_60 hc) (gi_l gL_law_X12_ofRun) rfl ⟨rfl, rfl⟩ 2 e_X12_ofRun ⟨Nat.le_of_ble_eq_true rfl, Nat.le_of_ble_eq_true rfl⟩ (b_43 _) rfl rfl (st := [.int r_57]) (st1 := [.int r_60, .int r_57]) rfl rfl (Nat.le_of_ble_eq_true rfl) ⟨by show ce ≤ 600000; omega, by show sl ≤ 7302250; omega⟩ dL_law_282 ?_
          refine go_icmp_eq hC dL_law_285 (tgt := 1676) (by decide) (fun c_62 => ?_) (fun c_62 => ?_)
          · replace hf := if_t c_62 hf
            obtain ⟨x3_61, ex3_61, hf⟩ := lt_e hf
            refine go_iinc hC dL_law_1676 3 rfl k1_7 ex3_61 (Nat.le_of_ble_eq_true rfl) rfl ?_
            refine go_goto hC dL_law_1679 (tgt := 18) (by decide) ?_
            obtain rfl := so_1 hf
            refine go_sub [1, 2, 3, 0] (L' := [(0, .ref 1000000), (1, .ref 0), (2, .ref 43), (3, .int x3_61)]) rfl ?_
            refine go_wid (k := ce + 2) (n := sl + 9) (by omega) (by omega) ?_
            exact ih (ce + 2) (sl + 9) x3_61 h _ (lp_c hy) (hIs _ _ _ hI hf0) (by omega) (by omega)
          · replace hf := if_f c_62 hf
            refine go_iconst hC dL_law_288 k1_0 ?_
            cases hf
        · replace hf := if_f c_3 hf
          by_cases c_4 : ((xs x3.toNatClampNeg) &&& 63) = 2
          · replace hf := if_t c_4 hf
            refine go_tab hC dL_law_33 c_4 (off := 257) (by decide) (by decide) (by decide) (tgt := 290) (by decide) ?_
            refine go_aload_n hC dL_law_290 rfl 1 rfl ?_
            refine go_aload_n hC dL_law_291 rfl 0 rfl ?_
            refine go_iload_n hC dL_law_292 rfl 3 rfl ?_
            refine go_iconst hC dL_law_293 k1_1 ?_
            refine go_iadd hC dL_law_294 ?_
            obtain ⟨g_63, hf⟩ := ga_e hf
            refine go_sld hC hX g_63 dL_law_295 ?_
            refine go_aload_n hC dL_law_296 rfl 0 rfl ?_
            refine go_iload_n hC dL_law_297 rfl 3 rfl ?_
            refine go_iconst hC dL_law_298 k1_2 ?_
            refine go_iadd hC dL_law_299 ?_
            obtain ⟨g_64, hf⟩ := ga_e hf
            refine go_sld hC hX g_64 dL_law_300 ?_
            refine go_if_eq hC dL_law_301 (tgt := 308) (by decide) (fun c_91 => ?_) (fun c_91 => ?_)
            · replace hf := if_t c_91 hf
              refine go_iconst hC dL_law_308 k1_0 ?_
              obtain ⟨r_65, h_66, hc, hf⟩ := bd_e2 hf
              refine go_callV hC (c_X11_shut (xs (x3 + 1).toNatClampNeg) 0 h h_66 r_65 hc) (gi_l gL_law_X11_shut) rfl ⟨rfl, rfl⟩ 2 e_X11_shut ⟨Nat.le_of_ble_eq_true rfl, Nat.le_of_ble_eq_true rfl⟩ (b_0 _) rfl rfl (st := []) (st1 := [.int r_65]) rfl rfl (Nat.le_of_ble_eq_true rfl) ⟨by show ce ≤ 600000; omega, by show sl ≤ 7302250; omega⟩ dL_law_309 ?_
              refine go_aload_n hC dL_law_312 rfl 2 rfl ?_
              refine go_aload_n hC dL_law_313 rfl 0 rfl ?_
              refine go_iload_n hC dL_law_314 rfl 3 rfl ?_
              refine go_iconst hC dL_law_315 k1_1 ?_
              refine go_iadd hC dL_law_316 ?_
              obtain ⟨g_67, hf⟩ := ga_e hf
              refine go_sld hC hX g_67 dL_law_317 ?_
              refine go_aload_n hC dL_law_318 rfl 0 rfl ?_
              refine go_iload_n hC dL_law_319 rfl 3 rfl ?_
              refine go_iconst hC dL_law_320 k1_2 ?_
              refine go_iadd hC dL_law_321 ?_
              obtain ⟨g_68, hf⟩ := ga_e hf
              refine go_sld hC hX g_68 dL_law_322 ?_
              refine go_if_eq hC dL_law_323 (tgt := 330) (by decide) (fun c_77 => ?_) (fun c_77 => ?_)
              · replace hf := if_t c_77 hf
                refine go_iconst hC dL_law_330 k1_0 ?_
                obtain ⟨r_69, h_70, hc, hf⟩ := bd_e2 hf
                refine go_callV hC (c_X12_shut (xs (x3 + 1).toNatClampNeg) 0 h_66 h_70 r_69 hc) (gi_l gL_law_X12_shut) rfl ⟨rfl, rfl⟩ 2 e_X12_shut ⟨Nat.le_of_ble_eq_true rfl, Nat.le_of_ble_eq_true rfl⟩ (b_43 _) rfl rfl (st := [.int r_65]) (st1 := [.int r_69, .int r_65]) rfl rfl (Nat.le_of_ble_eq_true rfl) ⟨by show ce ≤ 600000; omega, by show sl ≤ 7302250; omega⟩ dL_law_331 ?_
                refine go_icmp_eq hC dL_law_334 (tgt := 1676) (by decide) (fun c_72 => ?_) (fun c_72 => ?_)
                · replace hf := if_t c_72 hf
                  obtain ⟨x3_71, ex3_71, hf⟩ := lt_e hf
                  refine go_iinc hC dL_law_1676 3 rfl k1_7 ex3_71 (Nat.le_of_ble_eq_true rfl) rfl ?_
                  refine go_goto hC dL_law_1679 (tgt := 18) (by decide) ?_
                  obtain rfl := so_1 hf
                  refine go_sub [1, 2, 3, 0] (L' := [(0, .ref 1000000), (1, .ref 0), (2, .ref 43), (3, .int x3_71)]) rfl ?_
                  refine go_wid (k := ce + 2) (n := sl + 9) (by omega) (by omega) ?_
                  exact ih (ce + 2) (sl + 9) x3_71 h_70 _ (lp_c hy) (hIs _ _ _ hI hf0) (by omega) (by omega)
                · replace hf := if_f c_72 hf
                  refine go_iconst hC dL_law_337 k1_0 ?_
                  cases hf
              · replace hf := if_f c_77 hf
                refine go_iconst hC dL_law_326 k1_1 ?_
                refine go_goto hC dL_law_327 (tgt := 331) (by decide) ?_
                obtain ⟨r_73, h_74, hc, hf⟩ := bd_e2 hf
                refine go_callV hC (c_X12_shut (xs (x3 + 1).toNatClampNeg) 1 h_66 h_74 r_73 hc) (gi_l gL_law_X12_shut) rfl ⟨rfl, rfl⟩ 2 e_X12_shut ⟨Nat.le_of_ble_eq_true rfl, Nat.le_of_ble_eq_true rfl⟩ (b_43 _) rfl rfl (st := [.int r_65]) (st1 := [.int r_73, .int r_65]) rfl rfl (Nat.le_of_ble_eq_true rfl) ⟨by show ce ≤ 600000; omega, by show sl ≤ 7302250; omega⟩ dL_law_331 ?_
                refine go_icmp_eq hC dL_law_334 (tgt := 1676) (by decide) (fun c_76 => ?_) (fun c_76 => ?_)
                · replace hf := if_t c_76 hf
                  obtain ⟨x3_75, ex3_75, hf⟩ := lt_e hf
                  refine go_iinc hC dL_law_1676 3 rfl k1_7 ex3_75 (Nat.le_of_ble_eq_true rfl) rfl ?_
                  refine go_goto hC dL_law_1679 (tgt := 18) (by decide) ?_
                  obtain rfl := so_1 hf
                  refine go_sub [1, 2, 3, 0] (L' := [(0, .ref 1000000), (1, .ref 0), (2, .ref 43), (3, .int x3_75)]) rfl ?_
                  refine go_wid (k := ce + 2) (n := sl + 9) (by omega) (by omega) ?_
                  exact ih (ce + 2) (sl + 9) x3_75 h_74 _ (lp_c hy) (hIs _ _ _ hI hf0) (by omega) (by omega)
                · replace hf := if_f c_76 hf
                  refine go_iconst hC dL_law_337 k1_0 ?_
                  cases hf
            · replace hf := if_f c_91 hf
              refine go_iconst hC dL_law_304 k1_1 ?_
              refine go_goto hC dL_law_305 (tgt := 309) (by decide) ?_
              obtain ⟨r_78, h_79, hc, hf⟩ := bd_e2 hf
              refine go_callV hC (c_X11_shut (xs (x3 + 1).toNatClampNeg) 1 h h_79 r_78 hc) (gi_l gL_law_X11_shut) rfl ⟨rfl, rfl⟩ 2 e_X11_shut ⟨Nat.le_of_ble_eq_true rfl, Nat.le_of_ble_eq_true rfl⟩ (b_0 _) rfl rfl (st := []) (st1 := [.int r_78]) rfl rfl (Nat.le_of_ble_eq_true rfl) ⟨by show ce ≤ 600000; omega, by show sl ≤ 7302250; omega⟩ dL_law_309 ?_
              refine go_aload_n hC dL_law_312 rfl 2 rfl ?_
              refine go_aload_n hC dL_law_313 rfl 0 rfl ?_
              refine go_iload_n hC dL_law_314 rfl 3 rfl ?_
              refine go_iconst hC dL_law_315 k1_1 ?_
              refine go_iadd hC dL_law_316 ?_
              obtain ⟨g_80, hf⟩ := ga_e hf
              refine go_sld hC hX g_80 dL_law_317 ?_
              refine go_aload_n hC dL_law_318 rfl 0 rfl ?_
              refine go_iload_n hC dL_law_319 rfl 3 rfl ?_
              refine go_iconst hC dL_law_320 k1_2 ?_
              refine go_iadd hC dL_law_321 ?_
              obtain ⟨g_81, hf⟩ := ga_e hf
              refine go_sld hC hX g_81 dL_law_322 ?_
              refine go_if_eq hC dL_law_323 (tgt := 330) (by decide) (fun c_90 => ?_) (fun c_90 => ?_)
              · replace hf := if_t c_90 hf
                refine go_iconst hC dL_law_330 k1_0 ?_
                obtain ⟨r_82, h_83, hc, hf⟩ := bd_e2 hf
                refine go_callV hC (c_X12_shut (xs (x3 + 1).toNatClampNeg) 0 h_79 h_83 r_82 hc) (gi_l gL_law_X12_shut) rfl ⟨rfl, rfl⟩ 2 e_X12_shut ⟨Nat.le_of_ble_eq_true rfl, Nat.le_of_ble_eq_true rfl⟩ (b_43 _) rfl rfl (st := [.int r_78]) (st1 := [.int r_82, .int r_78]) rfl rfl (Nat.le_of_ble_eq_true rfl) ⟨by show ce ≤ 600000; omega, by show sl ≤ 7302250; omega⟩ dL_law_331 ?_
                refine go_icmp_eq hC dL_law_334 (tgt := 1676) (by decide) (fun c_85 => ?_) (fun c_85 => ?_)
                · replace hf := if_t c_85 hf
                  obtain ⟨x3_84, ex3_84, hf⟩ := lt_e hf
                  refine go_iinc hC dL_law_1676 3 rfl k1_7 ex3_84 (Nat.le_of_ble_eq_true rfl) rfl ?_
                  refine go_goto hC dL_law_1679 (tgt := 18) (by decide) ?_
                  obtain rfl := so_1 hf
                  refine go_sub [1, 2, 3, 0] (L' := [(0, .ref 1000000), (1, .ref 0), (2, .ref 43), (3, .int x3_84)]) rfl ?_
                  refine go_wid (k := ce + 2) (n := sl + 9) (by omega) (by omega) ?_
                  exact ih (ce + 2) (sl + 9) x3_84 h_83 _ (lp_c hy) (hIs _ _ _ hI hf0) (by omega) (by omega)
                · replace hf := if_f c_85 hf
                  refine go_iconst hC dL_law_337 k1_0 ?_
                  cases hf
              · replace hf := if_f c_90 hf
                refine go_iconst hC dL_law_326 k1_1 ?_
                refine go_goto hC dL_law_327 (tgt := 331) (by decide) ?_
                obtain ⟨r_86, h_87, hc, hf⟩ := bd_e2 hf
                refine go_callV hC (c_X12_shut (xs (x3 + 1).toNatClampNeg) 1 h_79 h_87 r_86 hc) (gi_l gL_law_X12_shut) rfl ⟨rfl, rfl⟩ 2 e_X12_shut ⟨Nat.le_of_ble_eq_true rfl, Nat.le_of_ble_eq_true rfl⟩ (b_43 _) rfl rfl (st := [.int r_78]) (st1 := [.int r_86, .int r_78]) rfl rfl (Nat.le_of_ble_eq_true rfl) ⟨by show ce ≤ 600000; omega, by show sl ≤ 7302250; omega⟩ dL_law_331 ?_
                refine go_icmp_eq hC dL_law_334 (tgt := 1676) (by decide) (fun c_89 => ?_) (fun c_89 => ?_)
                · replace hf := if_t c_89 hf
                  obtain ⟨x3_88, ex3_88, hf⟩ := lt_e hf
                  refine go_iinc hC dL_law_1676 3 rfl k1_7 ex3_88 (Nat.le_of_ble_eq_true rfl) rfl ?_
                  refine go_goto hC dL_law_1679 (tgt := 18) (by decide) ?_
                  obtain rfl := so_1 hf
                  refine go_sub [1, 2, 3, 0] (L' := [(0, .ref 1000000), (1, .ref 0), (2, .ref 43), (3, .int x3_88)]) rfl ?_
                  refine go_wid (k := ce + 2) (n := sl + 9) (by omega) (by omega) ?_
                  exact ih (ce + 2) (sl + 9) x3_88 h_87 _ (lp_c hy) (hIs _ _ _ hI hf0) (by omega) (by omega)
                · replace hf := if_f c_89 hf
                  refine go_iconst hC dL_law_337 k1_0 ?_
                  cases hf
          · replace hf := if_f c_4 hf
            by_cases c_5 : ((xs x3.toNatClampNeg) &&& 63) = 3
            · replace hf := if_t c_5 hf
              refine go_tab hC dL_law_33 c_5 (off := 306) (by decide) (by decide) (by decide) (tgt := 339) (by decide) ?_
              refine go_aload_n hC dL_law_339 rfl 1 rfl ?_
              refine go_aload_n hC dL_law_340 rfl 0 rfl ?_
              refine go_iload_n hC dL_law_341 rfl 3 rfl ?_
              refine go_iconst hC dL_law_342 k1_1 ?_
              refine go_iadd hC dL_law_343 ?_
              obtain ⟨g_92, hf⟩ := ga_e hf
              refine go_sld hC hX g_92 dL_law_344 ?_
              refine go_aload_n hC dL_law_345 rfl 0 rfl ?_
              refine go_iload_n hC dL_law_346 rfl 3 rfl ?_
              refine go_iconst hC dL_law_347 k1_2 ?_
              refine go_iadd hC dL_law_348 ?_
              obtain ⟨g_93, hf⟩ := ga_e hf
              refine go_sld hC hX g_93 dL_law_349 ?_
              refine go_aload_n hC dL_law_350 rfl 0 rfl ?_
              refine go_iload_n hC dL_law_351 rfl 3 rfl ?_
              refine go_iconst hC dL_law_352 k1_3 ?_
              refine go_iadd hC dL_law_353 ?_
              obtain ⟨g_94, hf⟩ := ga_e hf
              refine go_sld hC hX g_94 dL_law_354 ?_
              obtain ⟨r_95, hc, hf⟩ := bd_e1 hf
              refine go_callV hC (c_X11_run (xs (x3 + 1).toNatClampNeg) (xs (x3 + 2).toNatClampNeg) (xs (x3 + 3).toNatClampNeg) h r_95 hc) (gi_l gL_law_X11_run) rfl ⟨rfl, rfl⟩ 3 e_X11_run ⟨Nat.le_of_ble_eq_true rfl, Nat.le_of_ble_eq_true rfl⟩ (b_0 _) rfl rfl (st := []) (st1 := [.int r_95]) rfl rfl (Nat.le_of_ble_eq_true rfl) ⟨by show ce ≤ 600000; omega, by show sl ≤ 7302250; omega⟩ dL_law_355 ?_
              refine go_aload_n hC dL_law_358 rfl 2 rfl ?_
              refine go_aload_n hC dL_law_359 rfl 0 rfl ?_
              refine go_iload_n hC dL_law_360 rfl 3 rfl ?_
              refine go_iconst hC dL_law_361 k1_1 ?_
              refine go_iadd hC dL_law_362 ?_
              obtain ⟨g_96, hf⟩ := ga_e hf
              refine go_sld hC hX g_96 dL_law_363 ?_
              refine go_aload_n hC dL_law_364 rfl 0 rfl ?_
              refine go_iload_n hC dL_law_365 rfl 3 rfl ?_
              refine go_iconst hC dL_law_366 k1_2 ?_
              refine go_iadd hC dL_law_367 ?_
              obtain ⟨g_97, hf⟩ := ga_e hf
              refine go_sld hC hX g_97 dL_law_368 ?_
              refine go_aload_n hC dL_law_369 rfl 0 rfl ?_
              refine go_iload_n hC dL_law_370 rfl 3 rfl ?_
              refine go_iconst hC dL_law_371 k1_3 ?_
              refine go_iadd hC dL_law_372 ?_
              obtain ⟨g_98, hf⟩ := ga_e hf
              refine go_sld hC hX g_98 dL_law_373 ?_
              obtain ⟨r_99, hc, hf⟩ := bd_e1 hf
              refine go_callV hC (c_X12_run (xs (x3 + 1).toNatClampNeg) (xs (x3 + 2).toNatClampNeg) (xs (x3 + 3).toNatClampNeg) h r_99 hc) (gi_l gL_law_X12_run) rfl ⟨rfl, rfl⟩ 3 e_X12_run ⟨Nat.le_of_ble_eq_true rfl, Nat.le_of_ble_eq_true rfl⟩ (b_43 _) rfl rfl (st := [.int r_95]) (st1 := [.int r_99, .int r_95]) rfl rfl (Nat.le_of_ble_eq_true rfl) ⟨by show ce ≤ 600000; omega, by show sl ≤ 7302250; omega⟩ dL_law_374 ?_
              refine go_icmp_eq hC dL_law_377 (tgt := 1676) (by decide) (fun c_101 => ?_) (fun c_101 => ?_)
              · replace hf := if_t c_101 hf
                obtain ⟨x3_100, ex3_100, hf⟩ := lt_e hf
                refine go_iinc hC dL_law_1676 3 rfl k1_7 ex3_100 (Nat.le_of_ble_eq_true rfl) rfl ?_
                refine go_goto hC dL_law_1679 (tgt := 18) (by decide) ?_
                obtain rfl := so_1 hf
                refine go_sub [1, 2, 3, 0] (L' := [(0, .ref 1000000), (1, .ref 0), (2, .ref 43), (3, .int x3_100)]) rfl ?_
                refine go_wid (k := ce + 2) (n := sl + 9) (by omega) (by omega) ?_
                exact ih (ce + 2) (sl + 9) x3_100 h _ (lp_c hy) (hIs _ _ _ hI hf0) (by omega) (by omega)
              · replace hf := if_f c_101 hf
                refine go_iconst hC dL_law_380 k1_0 ?_
                cases hf
            · replace hf := if_f c_5 hf
              by_cases c_6 : ((xs x3.toNatClampNeg) &&& 63) = 4
              · replace hf := if_t c_6 hf
                refine go_tab hC dL_law_33 c_6 (off := 349) (by decide) (by decide) (by decide) (tgt := 382) (by decide) ?_
                refine go_aload_n hC dL_law_382 rfl 1 rfl ?_
                refine go_aload_n hC dL_law_383 rfl 0 rfl ?_
                refine go_iload_n hC dL_law_384 rfl 3 rfl ?_
                refine go_iconst hC dL_law_385 k1_1 ?_
                refine go_iadd hC dL_law_386 ?_
                obtain ⟨g_102, hf⟩ := ga_e hf
                refine go_sld hC hX g_102 dL_law_387 ?_
                refine go_aload_n hC dL_law_388 rfl 0 rfl ?_
                refine go_iload_n hC dL_law_389 rfl 3 rfl ?_
                refine go_iconst hC dL_law_390 k1_2 ?_
                refine go_iadd hC dL_law_391 ?_
                obtain ⟨g_103, hf⟩ := ga_e hf
                refine go_sld hC hX g_103 dL_law_392 ?_
                refine go_aload_n hC dL_law_393 rfl 0 rfl ?_
                refine go_iload_n hC dL_law_394 rfl 3 rfl ?_
                refine go_iconst hC dL_law_395 k1_3 ?_
                refine go_iadd hC dL_law_396 ?_
                obtain ⟨g_104, hf⟩ := ga_e hf
                refine go_sld hC hX g_104 dL_law_397 ?_
                obtain ⟨r_105, hc, hf⟩ := bd_e1 hf
                refine go_callV hC (c_X11_along (xs (x3 + 1).toNatClampNeg) (xs (x3 + 2).toNatClampNeg) (xs (x3 + 3).toNatClampNeg) h r_105 hc) (gi_l gL_law_X11_along) rfl ⟨rfl, rfl⟩ 3 e_X11_along ⟨Nat.le_of_ble_eq_true rfl, Nat.le_of_ble_eq_true rfl⟩ (b_0 _) rfl rfl (st := []) (st1 := [.int r_105]) rfl rfl (Nat.le_of_ble_eq_true rfl) ⟨by show ce ≤ 600000; omega, by show sl ≤ 7302250; omega⟩ dL_law_398 ?_
                refine go_aload_n hC dL_law_401 rfl 2 rfl ?_
                refine go_aload_n hC dL_law_402 rfl 0 rfl ?_
                refine go_iload_n hC dL_law_403 rfl 3 rfl ?_
                refine go_iconst hC dL_law_404 k1_1 ?_
                refine go_iadd hC dL_law_405 ?_
                obtain ⟨g_106, hf⟩ := ga_e hf
                refine go_sld hC hX g_106 dL_law_406 ?_
                refine go_aload_n hC dL_law_407 rfl 0 rfl ?_
                refine go_iload_n hC dL_law_408 rfl 3 rfl ?_
                refine go_iconst hC dL_law_409 k1_2 ?_
                refine go_iadd hC dL_law_410 ?_
                obtain ⟨g_107, hf⟩ := ga_e hf
                refine go_sld hC hX g_107 dL_law_411 ?_
                refine go_aload_n hC dL_law_412 rfl 0 rfl ?_
                refine go_iload_n hC dL_law_413 rfl 3 rfl ?_
                refine go_iconst hC dL_law_414 k1_3 ?_
                refine go_iadd hC dL_law_415 ?_
                obtain ⟨g_108, hf⟩ := ga_e hf
                refine go_sld hC hX g_108 dL_law_416 ?_
                obtain ⟨r_109, hc, hf⟩ := bd_e1 hf
                refine go_callV hC (c_X12_along (xs (x3 + 1).toNatClampNeg) (xs (x3 + 2).toNatClampNeg) (xs (x3 + 3).toNatClampNeg) h r_109 hc) (gi_l gL_law_X12_along) rfl ⟨rfl, rfl⟩ 3 e_X12_along ⟨Nat.le_of_ble_eq_true rfl, Nat.le_of_ble_eq_true rfl⟩ (b_43 _) rfl rfl (st := [.int r_105]) (st1 := [.int r_109, .int r_105]) rfl rfl (Nat.le_of_ble_eq_true rfl) ⟨by show ce ≤ 600000; omega, by show sl ≤ 7302250; omega⟩ dL_law_417 ?_
                refine go_icmp_eq hC dL_law_420 (tgt := 1676) (by decide) (fun c_111 => ?_) (fun c_111 => ?_)
                · replace hf := if_t c_111 hf
                  obtain ⟨x3_110, ex3_110, hf⟩ := lt_e hf
                  refine go_iinc hC dL_law_1676 3 rfl k1_7 ex3_110 (Nat.le_of_ble_eq_true rfl) rfl ?_
                  refine go_goto hC dL_law_1679 (tgt := 18) (by decide) ?_
                  obtain rfl := so_1 hf
                  refine go_sub [1, 2, 3, 0] (L' := [(0, .ref 1000000), (1, .ref 0), (2, .ref 43), (3, .int x3_110)]) rfl ?_
                  refine go_wid (k := ce + 2) (n := sl + 9) (by omega) (by omega) ?_
                  exact ih (ce + 2) (sl + 9) x3_110 h _ (lp_c hy) (hIs _ _ _ hI hf0) (by omega) (by omega)
                · replace hf := if_f c_111 hf
                  refine go_iconst hC dL_law_423 k1_0 ?_
                  cases hf
              · replace hf := if_f c_6 hf
                by_cases c_7 : ((xs x3.toNatClampNeg) &&& 63) = 5
                · replace hf := if_t c_7 hf
                  refine go_tab hC dL_law_33 c_7 (off := 392) (by decide) (by decide) (by decide) (tgt := 425) (by decide) ?_
                  refine go_aload_n hC dL_law_425 rfl 1 rfl ?_
                  refine go_aload_n hC dL_law_426 rfl 0 rfl ?_
                  refine go_iload_n hC dL_law_427 rfl 3 rfl ?_
                  refine go_iconst hC dL_law_428 k1_1 ?_
                  refine go_iadd hC dL_law_429 ?_
                  obtain ⟨g_112, hf⟩ := ga_e hf
                  refine go_sld hC hX g_112 dL_law_430 ?_
                  obtain ⟨r_113, h_114, hc, hf⟩ := bd_e2 hf
                  refine go_callV hC (c_X11_box (xs (x3 + 1).toNatClampNeg) h h_114 r_113 hc) (gi_l gL_law_X11_box) rfl ⟨rfl, rfl⟩ 1 e_X11_box ⟨Nat.le_of_ble_eq_true rfl, Nat.le_of_ble_eq_true rfl⟩ (b_0 _) rfl rfl (st := []) (st1 := [.int r_113]) rfl rfl (Nat.le_of_ble_eq_true rfl) ⟨by show ce ≤ 600000; omega, by show sl ≤ 7302250; omega⟩ dL_law_431 ?_
                  refine go_aload_n hC dL_law_434 rfl 2 rfl ?_
                  refine go_aload_n hC dL_law_435 rfl 0 rfl ?_
                  refine go_iload_n hC dL_law_436 rfl 3 rfl ?_
                  refine go_iconst hC dL_law_437 k1_1 ?_
                  refine go_iadd hC dL_law_438 ?_
                  obtain ⟨g_115, hf⟩ := ga_e hf
                  refine go_sld hC hX g_115 dL_law_439 ?_
                  obtain ⟨r_116, h_117, hc, hf⟩ := bd_e2 hf
                  refine go_callV hC (c_X12_box (xs (x3 + 1).toNatClampNeg) h_114 h_117 r_116 hc) (gi_l gL_law_X12_box) rfl ⟨rfl, rfl⟩ 1 e_X12_box ⟨Nat.le_of_ble_eq_true rfl, Nat.le_of_ble_eq_true rfl⟩ (b_43 _) rfl rfl (st := [.int r_113]) (st1 := [.int r_116, .int r_113]) rfl rfl (Nat.le_of_ble_eq_true rfl) ⟨by show ce ≤ 600000; omega, by show sl ≤ 7302250; omega⟩ dL_law_440 ?_
                  refine go_icmp_eq hC dL_law_443 (tgt := 1676) (by decide) (fun c_119 => ?_) (fun c_119 => ?_)
                  · replace hf := if_t c_119 hf
                    obtain ⟨x3_118, ex3_118, hf⟩ := lt_e hf
                    refine go_iinc hC dL_law_1676 3 rfl k1_7 ex3_118 (Nat.le_of_ble_eq_true rfl) rfl ?_
                    refine go_goto hC dL_law_1679 (tgt := 18) (by decide) ?_
                    obtain rfl := so_1 hf
                    refine go_sub [1, 2, 3, 0] (L' := [(0, .ref 1000000), (1, .ref 0), (2, .ref 43), (3, .int x3_118)]) rfl ?_
                    refine go_wid (k := ce + 2) (n := sl + 9) (by omega) (by omega) ?_
                    exact ih (ce + 2) (sl + 9) x3_118 h_117 _ (lp_c hy) (hIs _ _ _ hI hf0) (by omega) (by omega)
                  · replace hf := if_f c_119 hf
                    refine go_iconst hC dL_law_446 k1_0 ?_
                    cases hf
                · replace hf := if_f c_7 hf
                  by_cases c_8 : ((xs x3.toNatClampNeg) &&& 63) = 6
                  · replace hf := if_t c_8 hf
                    refine go_tab hC dL_law_33 c_8 (off := 415) (by decide) (by decide) (by decide) (tgt := 448) (by decide) ?_
                    refine go_aload_n hC dL_law_448 rfl 1 rfl ?_
                    refine go_aload_n hC dL_law_449 rfl 0 rfl ?_
                    refine go_iload_n hC dL_law_450 rfl 3 rfl ?_
                    refine go_iconst hC dL_law_451 k1_1 ?_
                    refine go_iadd hC dL_law_452 ?_
                    obtain ⟨g_120, hf⟩ := ga_e hf
                    refine go_sld hC hX g_120 dL_law_453 ?_
                    refine go_aload_n hC dL_law_454 rfl 0 rfl ?_
                    refine go_iload_n hC dL_law_455 rfl 3 rfl ?_
                    refine go_iconst hC dL_law_456 k1_2 ?_
                    refine go_iadd hC dL_law_457 ?_
                    obtain ⟨g_121, hf⟩ := ga_e hf
                    refine go_sld hC hX g_121 dL_law_458 ?_
                    refine go_aload_n hC dL_law_459 rfl 0 rfl ?_
                    refine go_iload_n hC dL_law_460 rfl 3 rfl ?_
                    refine go_iconst hC dL_law_461 k1_3 ?_
                    refine go_iadd hC dL_law_462 ?_
                    obtain ⟨g_122, hf⟩ := ga_e hf
                    refine go_sld hC hX g_122 dL_law_463 ?_
                    obtain ⟨r_123, h_124, hc, hf⟩ := bd_e2 hf
                    refine go_callV hC (c_X11_point (xs (x3 + 1).toNatClampNeg) (xs (x3 + 2).toNatClampNeg) (xs (x3 + 3).toNatClampNeg) h h_124 r_123 hc) (gi_l gL_law_X11_point) rfl ⟨rfl, rfl⟩ 3 e_X11_point ⟨Nat.le_of_ble_eq_true rfl, Nat.le_of_ble_eq_true rfl⟩ (b_0 _) rfl rfl (st := []) (st1 := [.int r_123]) rfl rfl (Nat.le_of_ble_eq_true rfl) ⟨by show ce ≤ 600000; omega, by show sl ≤ 7302250; omega⟩ dL_law_464 ?_
                    refine go_aload_n hC dL_law_467 rfl 2 rfl ?_
                    refine go_aload_n hC dL_law_468 rfl 0 rfl ?_
                    refine go_iload_n hC dL_law_469 rfl 3 rfl ?_
                    refine go_iconst hC dL_law_470 k1_1 ?_
                    refine go_iadd hC dL_law_471 ?_
                    obtain ⟨g_125, hf⟩ := ga_e hf
                    refine go_sld hC hX g_125 dL_law_472 ?_
                    refine go_aload_n hC dL_law_473 rfl 0 rfl ?_
                    refine go_iload_n hC dL_law_474 rfl 3 rfl ?_
                    refine go_iconst hC dL_law_475 k1_2 ?_
                    refine go_iadd hC dL_law_476 ?_
                    obtain ⟨g_126, hf⟩ := ga_e hf
                    refine go_sld hC hX g_126 dL_law_477 ?_
                    refine go_aload_n hC dL_law_478 rfl 0 rfl ?_
                    refine go_iload_n hC dL_law_479 rfl 3 rfl ?_
                    refine go_iconst hC dL_law_480 k1_3 ?_
                    refine go_iadd hC dL_law_481 ?_
                    obtain ⟨g_127, hf⟩ := ga_e hf
                    refine go_sld hC hX g_127 dL_law_482 ?_
                    obtain ⟨r_128, h_129, hc, hf⟩ := bd_e2 hf
                    refine go_callV hC (c_X12_point (xs (x3 + 1).toNatClampNeg) (xs (x3 + 2).toNatClampNeg) (xs (x3 + 3).toNatClampNeg) h_124 h_129 r_128 hc) (gi_l gL_law_X12_point) rfl ⟨rfl, rfl⟩ 3 e_X12_point ⟨Nat.le_of_ble_eq_true rfl, Nat.le_of_ble_eq_true rfl⟩ (b_43 _) rfl rfl (st := [.int r_123]) (st1 := [.int r_128, .int r_123]) rfl rfl (Nat.le_of_ble_eq_true rfl) ⟨by show ce ≤ 600000; omega, by show sl ≤ 7302250; omega⟩ dL_law_483 ?_
                    refine go_icmp_eq hC dL_law_486 (tgt := 1676) (by decide) (fun c_131 => ?_) (fun c_131 => ?_)
                    · replace hf := if_t c_131 hf
                      obtain ⟨x3_130, ex3_130, hf⟩ := lt_e hf
                      refine go_iinc hC dL_law_1676 3 rfl k1_7 ex3_130 (Nat.le_of_ble_eq_true rfl) rfl ?_
                      refine go_goto hC dL_law_1679 (tgt := 18) (by decide) ?_
                      obtain rfl := so_1 hf
                      refine go_sub [1, 2, 3, 0] (L' := [(0, .ref 1000000), (1, .ref 0), (2, .ref 43), (3, .int x3_130)]) rfl ?_
                      refine go_wid (k := ce + 2) (n := sl + 9) (by omega) (by omega) ?_
                      exact ih (ce + 2) (sl + 9) x3_130 h_129 _ (lp_c hy) (hIs _ _ _ hI hf0) (by omega) (by omega)
                    · replace hf := if_f c_131 hf
                      refine go_iconst hC dL_law_489 k1_0 ?_
                      cases hf
                  · replace hf := if_f c_8 hf
                    by_cases c_9 : ((xs x3.toNatClampNeg) &&& 63) = 7
                    · replace hf := if_t c_9 hf
                      refine go_tab hC dL_law_33 c_9 (off := 458) (by decide) (by decide) (by decide) (tgt := 491) (by decide) ?_
                      refine go_aload_n hC dL_law_491 rfl 1 rfl ?_
                      refine go_aload_n hC dL_law_492 rfl 0 rfl ?_
                      refine go_iload_n hC dL_law_493 rfl 3 rfl ?_
                      refine go_iconst hC dL_law_494 k1_1 ?_
                      refine go_iadd hC dL_law_495 ?_
                      obtain ⟨g_132, hf⟩ := ga_e hf
                      refine go_sld hC hX g_132 dL_law_496 ?_
                      refine go_aload_n hC dL_law_497 rfl 0 rfl ?_
                      refine go_iload_n hC dL_law_498 rfl 3 rfl ?_
                      refine go_iconst hC dL_law_499 k1_2 ?_
                      refine go_iadd hC dL_law_500 ?_
                      obtain ⟨g_133, hf⟩ := ga_e hf
                      refine go_sld hC hX g_133 dL_law_501 ?_
                      obtain ⟨r_134, hc, hf⟩ := bd_e1 hf
                      refine go_callV hC (c_X11_ofPoint (xs (x3 + 1).toNatClampNeg) (xs (x3 + 2).toNatClampNeg) h r_134 hc) (gi_l gL_law_X11_ofPoint) rfl ⟨rfl, rfl⟩ 2 e_X11_ofPoint ⟨Nat.le_of_ble_eq_true rfl, Nat.le_of_ble_eq_true rfl⟩ (b_0 _) rfl rfl (st := []) (st1 := [.int r_134]) rfl rfl (Nat.le_of_ble_eq_true rfl) ⟨by show ce ≤ 600000; omega, by show sl ≤ 7302250; omega⟩ dL_law_502 ?_
                      refine go_aload_n hC dL_law_505 rfl 2 rfl ?_
                      refine go_aload_n hC dL_law_506 rfl 0 rfl ?_
                      refine go_iload_n hC dL_law_507 rfl 3 rfl ?_
                      refine go_iconst hC dL_law_508 k1_1 ?_
                      refine go_iadd hC dL_law_509 ?_
                      obtain ⟨g_135, hf⟩ := ga_e hf
                      refine go_sld hC hX g_135 dL_law_510 ?_
                      refine go_aload_n hC dL_law_511 rfl 0 rfl ?_
                      refine go_iload_n hC dL_law_512 rfl 3 rfl ?_
                      refine go_iconst hC dL_law_513 k1_2 ?_
                      refine go_iadd hC dL_law_514 ?_
                      obtain ⟨g_136, hf⟩ := ga_e hf
                      refine go_sld hC hX g_136 dL_law_515 ?_
                      obtain ⟨r_137, hc, hf⟩ := bd_e1 hf
                      refine go_callV hC (c_X12_ofPoint (xs (x3 + 1).toNatClampNeg) (xs (x3 + 2).toNatClampNeg) h r_137 hc) (gi_l gL_law_X12_ofPoint) rfl ⟨rfl, rfl⟩ 2 e_X12_ofPoint ⟨Nat.le_of_ble_eq_true rfl, Nat.le_of_ble_eq_true rfl⟩ (b_43 _) rfl rfl (st := [.int r_134]) (st1 := [.int r_137, .int r_134]) rfl rfl (Nat.le_of_ble_eq_true rfl) ⟨by show ce ≤ 600000; omega, by show sl ≤ 7302250; omega⟩ dL_law_516 ?_
                      refine go_icmp_eq hC dL_law_519 (tgt := 1676) (by decide) (fun c_139 => ?_) (fun c_139 => ?_)
                      · replace hf := if_t c_139 hf
                        obtain ⟨x3_138, ex3_138, hf⟩ := lt_e hf
                        refine go_iinc hC dL_law_1676 3 rfl k1_7 ex3_138 (Nat.le_of_ble_eq_true rfl) rfl ?_
                        refine go_goto hC dL_law_1679 (tgt := 18) (by decide) ?_
                        obtain rfl := so_1 hf
                        refine go_sub [1, 2, 3, 0] (L' := [(0, .ref 1000000), (1, .ref 0), (2, .ref 43), (3, .int x3_138)]) rfl ?_
                        refine go_wid (k := ce + 2) (n := sl + 9) (by omega) (by omega) ?_
                        exact ih (ce + 2) (sl + 9) x3_138 h _ (lp_c hy) (hIs _ _ _ hI hf0) (by omega) (by omega)
                      · replace hf := if_f c_139 hf
                        refine go_iconst hC dL_law_522 k1_0 ?_
                        cases hf
                    · replace hf := if_f c_9 hf
                      by_cases c_10 : ((xs x3.toNatClampNeg) &&& 63) = 8
                      · replace hf := if_t c_10 hf
                        refine go_tab hC dL_law_33 c_10 (off := 491) (by decide) (by decide) (by decide) (tgt := 524) (by decide) ?_
                        refine go_aload_n hC dL_law_524 rfl 1 rfl ?_
                        refine go_aload_n hC dL_law_525 rfl 0 rfl ?_
                        refine go_iload_n hC dL_law_526 rfl 3 rfl ?_
                        refine go_iconst hC dL_law_527 k1_1 ?_
                        refine go_iadd hC dL_law_528 ?_
                        obtain ⟨g_140, hf⟩ := ga_e hf
                        refine go_sld hC hX g_140 dL_law_529 ?_
                        refine go_aload_n hC dL_law_530 rfl 0 rfl ?_
                        refine go_iload_n hC dL_law_531 rfl 3 rfl ?_
                        refine go_iconst hC dL_law_532 k1_2 ?_
                        refine go_iadd hC dL_law_533 ?_
                        obtain ⟨g_141, hf⟩ := ga_e hf
                        refine go_sld hC hX g_141 dL_law_534 ?_
                        obtain ⟨r_142, h_143, hc, hf⟩ := bd_e2 hf
                        refine go_callV hC (c_X11_load (xs (x3 + 1).toNatClampNeg) (xs (x3 + 2).toNatClampNeg) h h_143 r_142 hc) (gi_l gL_law_X11_load) rfl ⟨rfl, rfl⟩ 2 e_X11_load ⟨Nat.le_of_ble_eq_true rfl, Nat.le_of_ble_eq_true rfl⟩ (b_0 _) rfl rfl (st := []) (st1 := [.int r_142]) rfl rfl (Nat.le_of_ble_eq_true rfl) ⟨by show ce ≤ 600000; omega, by show sl ≤ 7302250; omega⟩ dL_law_535 ?_
                        refine go_aload_n hC dL_law_538 rfl 2 rfl ?_
                        refine go_aload_n hC dL_law_539 rfl 0 rfl ?_
                        refine go_iload_n hC dL_law_540 rfl 3 rfl ?_
                        refine go_iconst hC dL_law_541 k1_1 ?_
                        refine go_iadd hC dL_law_542 ?_
                        obtain ⟨g_144, hf⟩ := ga_e hf
                        refine go_sld hC hX g_144 dL_law_543 ?_
                        refine go_aload_n hC dL_law_544 rfl 0 rfl ?_
                        refine go_iload_n hC dL_law_545 rfl 3 rfl ?_
                        refine go_iconst hC dL_law_546 k1_2 ?_
                        refine go_iadd hC dL_law_547 ?_
                        obtain ⟨g_145, hf⟩ := ga_e hf
                        refine go_sld hC hX g_145 dL_law_548 ?_
                        obtain ⟨r_146, h_147, hc, hf⟩ := bd_e2 hf
                        refine go_callV hC (c_X12_load (xs (x3 + 1).toNatClampNeg) (xs (x3 + 2).toNatClampNeg) h_143 h_147 r_146 hc) (gi_l gL_law_X12_load) rfl ⟨rfl, rfl⟩ 2 e_X12_load ⟨Nat.le_of_ble_eq_true rfl, Nat.le_of_ble_eq_true rfl⟩ (b_43 _) rfl rfl (st := [.int r_142]) (st1 := [.int r_146, .int r_142]) rfl rfl (Nat.le_of_ble_eq_true rfl) ⟨by show ce ≤ 600000; omega, by show sl ≤ 7302250; omega⟩ dL_law_549 ?_
                        refine go_icmp_eq hC dL_law_552 (tgt := 1676) (by decide) (fun c_149 => ?_) (fun c_149 => ?_)
                        · replace hf := if_t c_149 hf
                          obtain ⟨x3_148, ex3_148, hf⟩ := lt_e hf
                          refine go_iinc hC dL_law_1676 3 rfl k1_7 ex3_148 (Nat.le_of_ble_eq_true rfl) rfl ?_
                          refine go_goto hC dL_law_1679 (tgt := 18) (by decide) ?_
                          obtain rfl := so_1 hf
                          refine go_sub [1, 2, 3, 0] (L' := [(0, .ref 1000000), (1, .ref 0), (2, .ref 43), (3, .int x3_148)]) rfl ?_
                          refine go_wid (k := ce + 2) (n := sl + 9) (by omega) (by omega) ?_
                          exact ih (ce + 2) (sl + 9) x3_148 h_147 _ (lp_c hy) (hIs _ _ _ hI hf0) (by omega) (by omega)
                        · replace hf := if_f c_149 hf
                          refine go_iconst hC dL_law_555 k1_0 ?_
                          cases hf
                      · replace hf := if_f c_10 hf
                        by_cases c_11 : ((xs x3.toNatClampNeg) &&& 63) = 9
                        · replace hf := if_t c_11 hf
                          refine go_tab hC dL_law_33 c_11 (off := 524) (by decide) (by decide) (by decide) (tgt := 557) (by decide) ?_
                          refine go_aload_n hC dL_law_557 rfl 1 rfl ?_
                          refine go_aload_n hC dL_law_558 rfl 0 rfl ?_
                          refine go_iload_n hC dL_law_559 rfl 3 rfl ?_
                          refine go_iconst hC dL_law_560 k1_1 ?_
                          refine go_iadd hC dL_law_561 ?_
                          obtain ⟨g_150, hf⟩ := ga_e hf
                          refine go_sld hC hX g_150 dL_law_562 ?_
                          refine go_aload_n hC dL_law_563 rfl 0 rfl ?_
                          refine go_iload_n hC dL_law_564 rfl 3 rfl ?_
                          refine go_iconst hC dL_law_565 k1_2 ?_
                          refine go_iadd hC dL_law_566 ?_
                          obtain ⟨g_151, hf⟩ := ga_e hf
                          refine go_sld hC hX g_151 dL_law_567 ?_
                          refine go_aload_n hC dL_law_568 rfl 0 rfl ?_
                          refine go_iload_n hC dL_law_569 rfl 3 rfl ?_
                          refine go_iconst hC dL_law_570 k1_3 ?_
                          refine go_iadd hC dL_law_571 ?_
                          obtain ⟨g_152, hf⟩ := ga_e hf
                          refine go_sld hC hX g_152 dL_law_572 ?_
                          refine go_aload_n hC dL_law_573 rfl 0 rfl ?_
                          refine go_iload_n hC dL_law_574 rfl 3 rfl ?_
                          refine go_iconst hC dL_law_575 k1_4 ?_
                          refine go_iadd hC dL_law_576 ?_
                          obtain ⟨g_153, hf⟩ := ga_e hf
                          refine go_sld hC hX g_153 dL_law_577 ?_
                          refine go_aload_n hC dL_law_578 rfl 0 rfl ?_
                          refine go_iload_n hC dL_law_579 rfl 3 rfl ?_
                          refine go_iconst hC dL_law_580 k1_5 ?_
                          refine go_iadd hC dL_law_581 ?_
                          obtain ⟨g_154, hf⟩ := ga_e hf
                          refine go_sld hC hX g_154 dL_law_582 ?_
                          refine go_aload_n hC dL_law_583 rfl 0 rfl ?_
                          refine go_iload_n hC dL_law_584 rfl 3 rfl ?_
                          refine go_bipush hC dL_law_585 k8_6 ?_
                          refine go_iadd hC dL_law_587 ?_
                          obtain ⟨g_155, hf⟩ := ga_e hf
                          refine go_sld hC hX g_155 dL_law_588 ?_
                          obtain ⟨r_157, h_156, hc, hf⟩ := bd_e2 hf
                          refine go_callVA hC (c_X11_way (xs (x3 + 1).toNatClampNeg) (xs (x3 + 2).toNatClampNeg) (xs (x3 + 3).toNatClampNeg) (xs (x3 + 4).toNatClampNeg) (xs (x3 + 5).toNatClampNeg) (xs (x3 + 6).toNatClampNeg) h h_156 r_157 (hIw _ _ hI) hc) (gi_l gL_law_X11_way) rfl 2 9 ⟨rfl, rfl⟩ 6 e_X11_way ⟨Nat.le_of_ble_eq_true rfl, Nat.le_of_ble_eq_true rfl⟩ (b_0 _) rfl rfl (st := []) (st1 := [.int r_157]) rfl rfl (by intro v hv b hb; simp at hv; subst hv; cases hb) (Nat.le_of_ble_eq_true rfl) ⟨by show ce + 2 ≤ 600000; omega, by show sl + 9 ≤ 7302250; omega⟩ rfl (hAR _ (l0_le _)) (rl_ok (n := 71) rfl (l0_le _)) (rs_ok (n := 71) rfl (l0_le _)) dL_law_589 ?_
                          refine go_aload_n hC dL_law_592 rfl 2 rfl ?_
                          refine go_aload_n hC dL_law_593 rfl 0 rfl ?_
                          refine go_iload_n hC dL_law_594 rfl 3 rfl ?_
                          refine go_iconst hC dL_law_595 k1_1 ?_
                          refine go_iadd hC dL_law_596 ?_
                          obtain ⟨g_158, hf⟩ := ga_e hf
                          refine go_sld hC hX g_158 dL_law_597 ?_
                          refine go_aload_n hC dL_law_598 rfl 0 rfl ?_
                          refine go_iload_n hC dL_law_599 rfl 3 rfl ?_
                          refine go_iconst hC dL_law_600 k1_2 ?_
                          refine go_iadd hC dL_law_601 ?_
                          obtain ⟨g_159, hf⟩ := ga_e hf
                          refine go_sld hC hX g_159 dL_law_602 ?_
                          refine go_aload_n hC dL_law_603 rfl 0 rfl ?_
                          refine go_iload_n hC dL_law_604 rfl 3 rfl ?_
                          refine go_iconst hC dL_law_605 k1_3 ?_
                          refine go_iadd hC dL_law_606 ?_
                          obtain ⟨g_160, hf⟩ := ga_e hf
                          refine go_sld hC hX g_160 dL_law_607 ?_
                          refine go_aload_n hC dL_law_608 rfl 0 rfl ?_
                          refine go_iload_n hC dL_law_609 rfl 3 rfl ?_
                          refine go_iconst hC dL_law_610 k1_4 ?_
                          refine go_iadd hC dL_law_611 ?_
                          obtain ⟨g_161, hf⟩ := ga_e hf
                          refine go_sld hC hX g_161 dL_law_612 ?_
                          refine go_aload_n hC dL_law_613 rfl 0 rfl ?_
                          refine go_iload_n hC dL_law_614 rfl 3 rfl ?_
                          refine go_iconst hC dL_law_615 k1_5 ?_
                          refine go_iadd hC dL_law_616 ?_
                          obtain ⟨g_162, hf⟩ := ga_e hf
                          refine go_sld hC hX g_162 dL_law_617 ?_
                          refine go_aload_n hC dL_law_618 rfl 0 rfl ?_
                          refine go_iload_n hC dL_law_619 rfl 3 rfl ?_
                          refine go_bipush hC dL_law_620 k8_6 ?_
                          refine go_iadd hC dL_law_622 ?_
                          obtain ⟨g_163, hf⟩ := ga_e hf
                          refine go_sld hC hX g_163 dL_law_623 ?_
                          obtain ⟨r_164, h_165, hc, hf⟩ := bd_e2 hf
                          refine go_callV hC (c_X12_way (xs (x3 + 1).toNatClampNeg) (xs (x3 + 2).toNatClampNeg) (xs (x3 + 3).toNatClampNeg) (xs (x3 + 4).toNatClampNeg) (xs (x3 + 5).toNatClampNeg) (xs (x3 + 6).toNatClampNeg) h_156 h_165 r_164 hc) (gi_l gL_law_X12_way) rfl ⟨rfl, rfl⟩ 6 e_X12_way ⟨Nat.le_of_ble_eq_true rfl, Nat.le_of_ble_eq_true rfl⟩ (b_43 _) rfl rfl (st := [.int r_157]) (st1 := [.int r_164, .int r_157]) rfl rfl (Nat.le_of_ble_eq_true rfl) ⟨by show ce + 2 ≤ 600000; omega, by show sl + 9 ≤ 7302250; omega⟩ dL_law_624 ?_
                          refine go_icmp_eq hC dL_law_627 (tgt := 1676) (by decide) (fun c_167 => ?_) (fun c_167 => ?_)
                          · replace hf := if_t c_167 hf
                            obtain ⟨x3_166, ex3_166, hf⟩ := lt_e hf
                            refine go_iinc hC dL_law_1676 3 rfl k1_7 ex3_166 (Nat.le_of_ble_eq_true rfl) rfl ?_
                            refine go_goto hC dL_law_1679 (tgt := 18) (by decide) ?_
                            obtain rfl := so_1 hf
                            refine go_sub [1, 2, 3, 0] (L' := [(0, .ref 1000000), (1, .ref 0), (2, .ref 43), (3, .int x3_166)]) rfl ?_
                            refine go_wid (k := ce + 2) (n := sl + 9) (by omega) (by omega) ?_
                            exact ih (ce + 2) (sl + 9) x3_166 h_165 _ (lp_c hy) (hIs _ _ _ hI hf0) (by omega) (by omega)
                          · replace hf := if_f c_167 hf
                            refine go_iconst hC dL_law_630 k1_0 ?_
                            cases hf
                        · replace hf := if_f c_11 hf
                          by_cases c_12 : ((xs x3.toNatClampNeg) &&& 63) = 10
                          · replace hf := if_t c_12 hf
                            refine go_tab hC dL_law_33 c_12 (off := 599) (by decide) (by decide) (by decide) (tgt := 632) (by decide) ?_
                            refine go_aload_n hC dL_law_632 rfl 1 rfl ?_
                            refine go_aload_n hC dL_law_633 rfl 0 rfl ?_
                            refine go_iload_n hC dL_law_634 rfl 3 rfl ?_
                            refine go_iconst hC dL_law_635 k1_1 ?_
                            refine go_iadd hC dL_law_636 ?_
                            obtain ⟨g_168, hf⟩ := ga_e hf
                            refine go_sld hC hX g_168 dL_law_637 ?_
                            obtain ⟨r_169, h_170, hc, hf⟩ := bd_e2 hf
                            refine go_callV hC (c_X11_away (xs (x3 + 1).toNatClampNeg) h h_170 r_169 hc) (gi_l gL_law_X11_away) rfl ⟨rfl, rfl⟩ 1 e_X11_away ⟨Nat.le_of_ble_eq_true rfl, Nat.le_of_ble_eq_true rfl⟩ (b_0 _) rfl rfl (st := []) (st1 := [.int r_169]) rfl rfl (Nat.le_of_ble_eq_true rfl) ⟨by show ce ≤ 600000; omega, by show sl ≤ 7302250; omega⟩ dL_law_638 ?_
                            refine go_aload_n hC dL_law_641 rfl 2 rfl ?_
                            refine go_aload_n hC dL_law_642 rfl 0 rfl ?_
                            refine go_iload_n hC dL_law_643 rfl 3 rfl ?_
                            refine go_iconst hC dL_law_644 k1_1 ?_
                            refine go_iadd hC dL_law_645 ?_
                            obtain ⟨g_171, hf⟩ := ga_e hf
                            refine go_sld hC hX g_171 dL_law_646 ?_
                            obtain ⟨r_172, h_173, hc, hf⟩ := bd_e2 hf
                            refine go_callV hC (c_X12_away (xs (x3 + 1).toNatClampNeg) h_170 h_173 r_172 hc) (gi_l gL_law_X12_away) rfl ⟨rfl, rfl⟩ 1 e_X12_away ⟨Nat.le_of_ble_eq_true rfl, Nat.le_of_ble_eq_true rfl⟩ (b_43 _) rfl rfl (st := [.int r_169]) (st1 := [.int r_172, .int r_169]) rfl rfl (Nat.le_of_ble_eq_true rfl) ⟨by show ce ≤ 600000; omega, by show sl ≤ 7302250; omega⟩ dL_law_647 ?_
                            refine go_icmp_eq hC dL_law_650 (tgt := 1676) (by decide) (fun c_175 => ?_) (fun c_175 => ?_)
                            · replace hf := if_t c_175 hf
                              obtain ⟨x3_174, ex3_174, hf⟩ := lt_e hf
                              refine go_iinc hC dL_law_1676 3 rfl k1_7 ex3_174 (Nat.le_of_ble_eq_true rfl) rfl ?_
                              refine go_goto hC dL_law_1679 (tgt := 18) (by decide) ?_
                              obtain rfl := so_1 hf
                              refine go_sub [1, 2, 3, 0] (L' := [(0, .ref 1000000), (1, .ref 0), (2, .ref 43), (3, .int x3_174)]) rfl ?_
                              refine go_wid (k := ce + 2) (n := sl + 9) (by omega) (by omega) ?_
                              exact ih (ce + 2) (sl + 9) x3_174 h_173 _ (lp_c hy) (hIs _ _ _ hI hf0) (by omega) (by omega)
                            · replace hf := if_f c_175 hf
                              refine go_iconst hC dL_law_653 k1_0 ?_
                              cases hf
                          · replace hf := if_f c_12 hf
                            by_cases c_13 : ((xs x3.toNatClampNeg) &&& 63) = 11
                            · replace hf := if_t c_13 hf
                              refine go_tab hC dL_law_33 c_13 (off := 622) (by decide) (by decide) (by decide) (tgt := 655) (by decide) ?_
                              refine go_aload_n hC dL_law_655 rfl 1 rfl ?_
                              refine go_aload_n hC dL_law_656 rfl 0 rfl ?_
                              refine go_iload_n hC dL_law_657 rfl 3 rfl ?_
                              refine go_iconst hC dL_law_658 k1_1 ?_
                              refine go_iadd hC dL_law_659 ?_
                              obtain ⟨g_176, hf⟩ := ga_e hf
                              refine go_sld hC hX g_176 dL_law_660 ?_
                              refine go_aload_n hC dL_law_661 rfl 0 rfl ?_
                              refine go_iload_n hC dL_law_662 rfl 3 rfl ?_
                              refine go_iconst hC dL_law_663 k1_2 ?_
                              refine go_iadd hC dL_law_664 ?_
                              obtain ⟨g_177, hf⟩ := ga_e hf
                              refine go_sld hC hX g_177 dL_law_665 ?_
                              obtain ⟨r_178, hc, hf⟩ := bd_e1 hf
                              refine go_callV hC (c_X11_ofWay (xs (x3 + 1).toNatClampNeg) (xs (x3 + 2).toNatClampNeg) h r_178 hc) (gi_l gL_law_X11_ofWay) rfl ⟨rfl, rfl⟩ 2 e_X11_ofWay ⟨Nat.le_of_ble_eq_true rfl, Nat.le_of_ble_eq_true rfl⟩ (b_0 _) rfl rfl (st := []) (st1 := [.int r_178]) rfl rfl (Nat.le_of_ble_eq_true rfl) ⟨by show ce ≤ 600000; omega, by show sl ≤ 7302250; omega⟩ dL_law_666 ?_
                              refine go_aload_n hC dL_law_669 rfl 2 rfl ?_
                              refine go_aload_n hC dL_law_670 rfl 0 rfl ?_
                              refine go_iload_n hC dL_law_671 rfl 3 rfl ?_
                              refine go_iconst hC dL_law_672 k1_1 ?_
                              refine go_iadd hC dL_law_673 ?_
                              obtain ⟨g_179, hf⟩ := ga_e hf
                              refine go_sld hC hX g_179 dL_law_674 ?_
                              refine go_aload_n hC dL_law_675 rfl 0 rfl ?_
                              refine go_iload_n hC dL_law_676 rfl 3 rfl ?_
                              refine go_iconst hC dL_law_677 k1_2 ?_
                              refine go_iadd hC dL_law_678 ?_
                              obtain ⟨g_180, hf⟩ := ga_e hf
                              refine go_sld hC hX g_180 dL_law_679 ?_
                              obtain ⟨r_181, hc, hf⟩ := bd_e1 hf
                              refine go_callV hC (c_X12_ofWay (xs (x3 + 1).toNatClampNeg) (xs (x3 + 2).toNatClampNeg) h r_181 hc) (gi_l gL_law_X12_ofWay) rfl ⟨rfl, rfl⟩ 2 e_X12_ofWay ⟨Nat.le_of_ble_eq_true rfl, Nat.le_of_ble_eq_true rfl⟩ (b_43 _) rfl rfl (st := [.int r_178]) (st1 := [.int r_181, .int r_178]) rfl rfl (Nat.le_of_ble_eq_true rfl) ⟨by show ce ≤ 600000; omega, by show sl ≤ 7302250; omega⟩ dL_law_680 ?_
                              refine go_icmp_eq hC dL_law_683 (tgt := 1676) (by decide) (fun c_183 => ?_) (fun c_183 => ?_)
                              · replace hf := if_t c_183 hf
                                obtain ⟨x3_182, ex3_182, hf⟩ := lt_e hf
                                refine go_iinc hC dL_law_1676 3 rfl k1_7 ex3_182 (Nat.le_of_ble_eq_true rfl) rfl ?_
                                refine go_goto hC dL_law_1679 (tgt := 18) (by decide) ?_
                                obtain rfl := so_1 hf
                                refine go_sub [1, 2, 3, 0] (L' := [(0, .ref 1000000), (1, .ref 0), (2, .ref 43), (3, .int x3_182)]) rfl ?_
                                refine go_wid (k := ce + 2) (n := sl + 9) (by omega) (by omega) ?_
                                exact ih (ce + 2) (sl + 9) x3_182 h _ (lp_c hy) (hIs _ _ _ hI hf0) (by omega) (by omega)
                              · replace hf := if_f c_183 hf
                                refine go_iconst hC dL_law_686 k1_0 ?_
                                cases hf
                            · replace hf := if_f c_13 hf
                              by_cases c_14 : ((xs x3.toNatClampNeg) &&& 63) = 12
                              · replace hf := if_t c_14 hf
                                refine go_tab hC dL_law_33 c_14 (off := 655) (by decide) (by decide) (by decide) (tgt := 688) (by decide) ?_
                                refine go_aload_n hC dL_law_688 rfl 1 rfl ?_
                                refine go_aload_n hC dL_law_689 rfl 0 rfl ?_
                                refine go_iload_n hC dL_law_690 rfl 3 rfl ?_
                                refine go_iconst hC dL_law_691 k1_1 ?_
                                refine go_iadd hC dL_law_692 ?_
                                obtain ⟨g_184, hf⟩ := ga_e hf
                                refine go_sld hC hX g_184 dL_law_693 ?_
                                refine go_aload_n hC dL_law_694 rfl 0 rfl ?_
                                refine go_iload_n hC dL_law_695 rfl 3 rfl ?_
                                refine go_iconst hC dL_law_696 k1_2 ?_
                                refine go_iadd hC dL_law_697 ?_
                                obtain ⟨g_185, hf⟩ := ga_e hf
                                refine go_sld hC hX g_185 dL_law_698 ?_
                                obtain ⟨r_186, hc, hf⟩ := bd_e1 hf
                                refine go_callV hC (c_X11_cable (xs (x3 + 1).toNatClampNeg) (xs (x3 + 2).toNatClampNeg) h r_186 hc) (gi_l gL_law_X11_cable) rfl ⟨rfl, rfl⟩ 2 e_X11_cable ⟨Nat.le_of_ble_eq_true rfl, Nat.le_of_ble_eq_true rfl⟩ (b_0 _) rfl rfl (st := []) (st1 := [.int r_186]) rfl rfl (Nat.le_of_ble_eq_true rfl) ⟨by show ce ≤ 600000; omega, by show sl ≤ 7302250; omega⟩ dL_law_699 ?_
                                refine go_aload_n hC dL_law_702 rfl 2 rfl ?_
                                refine go_aload_n hC dL_law_703 rfl 0 rfl ?_
                                refine go_iload_n hC dL_law_704 rfl 3 rfl ?_
                                refine go_iconst hC dL_law_705 k1_1 ?_
                                refine go_iadd hC dL_law_706 ?_
                                obtain ⟨g_187, hf⟩ := ga_e hf
                                refine go_sld hC hX g_187 dL_law_707 ?_
                                refine go_aload_n hC dL_law_708 rfl 0 rfl ?_
                                refine go_iload_n hC dL_law_709 rfl 3 rfl ?_
                                refine go_iconst hC dL_law_710 k1_2 ?_
                                refine go_iadd hC dL_law_711 ?_
                                obtain ⟨g_188, hf⟩ := ga_e hf
                                refine go_sld hC hX g_188 dL_law_712 ?_
                                obtain ⟨r_189, hc, hf⟩ := bd_e1 hf
                                refine go_callV hC (c_X12_cable (xs (x3 + 1).toNatClampNeg) (xs (x3 + 2).toNatClampNeg) h r_189 hc) (gi_l gL_law_X12_cable) rfl ⟨rfl, rfl⟩ 2 e_X12_cable ⟨Nat.le_of_ble_eq_true rfl, Nat.le_of_ble_eq_true rfl⟩ (b_43 _) rfl rfl (st := [.int r_186]) (st1 := [.int r_189, .int r_186]) rfl rfl (Nat.le_of_ble_eq_true rfl) ⟨by show ce ≤ 600000; omega, by show sl ≤ 7302250; omega⟩ dL_law_713 ?_
                                refine go_icmp_eq hC dL_law_716 (tgt := 1676) (by decide) (fun c_191 => ?_) (fun c_191 => ?_)
                                · replace hf := if_t c_191 hf
                                  obtain ⟨x3_190, ex3_190, hf⟩ := lt_e hf
                                  refine go_iinc hC dL_law_1676 3 rfl k1_7 ex3_190 (Nat.le_of_ble_eq_true rfl) rfl ?_
                                  refine go_goto hC dL_law_1679 (tgt := 18) (by decide) ?_
                                  obtain rfl := so_1 hf
                                  refine go_sub [1, 2, 3, 0] (L' := [(0, .ref 1000000), (1, .ref 0), (2, .ref 43), (3, .int x3_190)]) rfl ?_
                                  refine go_wid (k := ce + 2) (n := sl + 9) (by omega) (by omega) ?_
                                  exact ih (ce + 2) (sl + 9) x3_190 h _ (lp_c hy) (hIs _ _ _ hI hf0) (by omega) (by omega)
                                · replace hf := if_f c_191 hf
                                  refine go_iconst hC dL_law_719 k1_0 ?_
                                  cases hf
                              · replace hf := if_f c_14 hf
                                by_cases c_15 : ((xs x3.toNatClampNeg) &&& 63) = 13
                                · replace hf := if_t c_15 hf
                                  refine go_tab hC dL_law_33 c_15 (off := 688) (by decide) (by decide) (by decide) (tgt := 721) (by decide) ?_
                                  refine go_aload_n hC dL_law_721 rfl 1 rfl ?_
                                  refine go_aload_n hC dL_law_722 rfl 0 rfl ?_
                                  refine go_iload_n hC dL_law_723 rfl 3 rfl ?_
                                  refine go_iconst hC dL_law_724 k1_1 ?_
                                  refine go_iadd hC dL_law_725 ?_
                                  obtain ⟨g_192, hf⟩ := ga_e hf
                                  refine go_sld hC hX g_192 dL_law_726 ?_
                                  refine go_aload_n hC dL_law_727 rfl 0 rfl ?_
                                  refine go_iload_n hC dL_law_728 rfl 3 rfl ?_
                                  refine go_iconst hC dL_law_729 k1_2 ?_
                                  refine go_iadd hC dL_law_730 ?_
                                  obtain ⟨g_193, hf⟩ := ga_e hf
                                  refine go_sld hC hX g_193 dL_law_731 ?_
                                  refine go_aload_n hC dL_law_732 rfl 0 rfl ?_
                                  refine go_iload_n hC dL_law_733 rfl 3 rfl ?_
                                  refine go_iconst hC dL_law_734 k1_3 ?_
                                  refine go_iadd hC dL_law_735 ?_
                                  obtain ⟨g_194, hf⟩ := ga_e hf
                                  refine go_sld hC hX g_194 dL_law_736 ?_
                                  obtain ⟨r_195, hc, hf⟩ := bd_e1 hf
                                  refine go_callV hC (c_X11_carries (xs (x3 + 1).toNatClampNeg) (xs (x3 + 2).toNatClampNeg) (xs (x3 + 3).toNatClampNeg) h r_195 hc) (gi_l gL_law_X11_carries) rfl ⟨rfl, rfl⟩ 3 e_X11_carries ⟨Nat.le_of_ble_eq_true rfl, Nat.le_of_ble_eq_true rfl⟩ (b_0 _) rfl rfl (st := []) (st1 := [.long r_195]) rfl rfl (Nat.le_of_ble_eq_true rfl) ⟨by show ce ≤ 600000; omega, by show sl ≤ 7302250; omega⟩ dL_law_737 ?_
                                  refine go_aload_n hC dL_law_740 rfl 2 rfl ?_
                                  refine go_aload_n hC dL_law_741 rfl 0 rfl ?_
                                  refine go_iload_n hC dL_law_742 rfl 3 rfl ?_
                                  refine go_iconst hC dL_law_743 k1_1 ?_
                                  refine go_iadd hC dL_law_744 ?_
                                  obtain ⟨g_196, hf⟩ := ga_e hf
                                  refine go_sld hC hX g_196 dL_law_745 ?_
                                  refine go_aload_n hC dL_law_746 rfl 0 rfl ?_
                                  refine go_iload_n hC dL_law_747 rfl 3 rfl ?_
                                  refine go_iconst hC dL_law_748 k1_2 ?_
                                  refine go_iadd hC dL_law_749 ?_
                                  obtain ⟨g_197, hf⟩ := ga_e hf
                                  refine go_sld hC hX g_197 dL_law_750 ?_
                                  refine go_aload_n hC dL_law_751 rfl 0 rfl ?_
                                  refine go_iload_n hC dL_law_752 rfl 3 rfl ?_
                                  refine go_iconst hC dL_law_753 k1_3 ?_
                                  refine go_iadd hC dL_law_754 ?_
                                  obtain ⟨g_198, hf⟩ := ga_e hf
                                  refine go_sld hC hX g_198 dL_law_755 ?_
                                  obtain ⟨r_199, h_200, hc, hf⟩ := bd_e2 hf
                                  refine go_callV hC (c_X12_carries (xs (x3 + 1).toNatClampNeg) (xs (x3 + 2).toNatClampNeg) (xs (x3 + 3).toNatClampNeg) h h_200 r_199 hc) (gi_l gL_law_X12_carries) rfl ⟨rfl, rfl⟩ 3 e_X12_carries ⟨Nat.le_of_ble_eq_true rfl, Nat.le_of_ble_eq_true rfl⟩ (b_43 _) rfl rfl (st := [.long r_195]) (st1 := [.long r_199, .long r_195]) rfl rfl (Nat.le_of_ble_eq_true rfl) ⟨by show ce ≤ 600000; omega, by show sl ≤ 7302250; omega⟩ dL_law_756 ?_
                                  refine go_lcmp hC dL_law_759 ?_
                                  refine go_if_eq hC dL_law_760 (tgt := 1676) (by decide) (fun c_202 => ?_) (fun c_202 => ?_)
                                  · replace hf := if_t c_202 hf
                                    obtain ⟨x3_201, ex3_201, hf⟩ := lt_e hf
                                    refine go_iinc hC dL_law_1676 3 rfl k1_7 ex3_201 (Nat.le_of_ble_eq_true rfl) rfl ?_
                                    refine go_goto hC dL_law_1679 (tgt := 18) (by decide) ?_
                                    obtain rfl := so_1 hf
                                    refine go_sub [1, 2, 3, 0] (L' := [(0, .ref 1000000), (1, .ref 0), (2, .ref 43), (3, .int x3_201)]) rfl ?_
                                    refine go_wid (k := ce + 2) (n := sl + 9) (by omega) (by omega) ?_
                                    exact ih (ce + 2) (sl + 9) x3_201 h_200 _ (lp_c hy) (hIs _ _ _ hI hf0) (by omega) (by omega)
                                  · replace hf := if_f c_202 hf
                                    refine go_iconst hC dL_law_763 k1_0 ?_
                                    cases hf
                                · replace hf := if_f c_15 hf
                                  by_cases c_16 : ((xs x3.toNatClampNeg) &&& 63) = 14
                                  · replace hf := if_t c_16 hf
                                    refine go_tab hC dL_law_33 c_16 (off := 732) (by decide) (by decide) (by decide) (tgt := 765) (by decide) ?_
                                    refine go_aload_n hC dL_law_765 rfl 1 rfl ?_
                                    refine go_aload_n hC dL_law_766 rfl 0 rfl ?_
                                    refine go_iload_n hC dL_law_767 rfl 3 rfl ?_
                                    refine go_iconst hC dL_law_768 k1_1 ?_
                                    refine go_iadd hC dL_law_769 ?_
                                    obtain ⟨g_203, hf⟩ := ga_e hf
                                    refine go_sld hC hX g_203 dL_law_770 ?_
                                    refine go_aload_n hC dL_law_771 rfl 0 rfl ?_
                                    refine go_iload_n hC dL_law_772 rfl 3 rfl ?_
                                    refine go_iconst hC dL_law_773 k1_2 ?_
                                    refine go_iadd hC dL_law_774 ?_
                                    obtain ⟨g_204, hf⟩ := ga_e hf
                                    refine go_sld hC hX g_204 dL_law_775 ?_
                                    refine go_aload_n hC dL_law_776 rfl 0 rfl ?_
                                    refine go_iload_n hC dL_law_777 rfl 3 rfl ?_
                                    refine go_iconst hC dL_law_778 k1_3 ?_
                                    refine go_iadd hC dL_law_779 ?_
                                    obtain ⟨g_205, hf⟩ := ga_e hf
                                    refine go_sld hC hX g_205 dL_law_780 ?_
                                    obtain ⟨r_206, hc, hf⟩ := bd_e1 hf
                                    refine go_callV hC (c_X11_drop (xs (x3 + 1).toNatClampNeg) (xs (x3 + 2).toNatClampNeg) (xs (x3 + 3).toNatClampNeg) h r_206 hc) (gi_l gL_law_X11_drop) rfl ⟨rfl, rfl⟩ 3 e_X11_drop ⟨Nat.le_of_ble_eq_true rfl, Nat.le_of_ble_eq_true rfl⟩ (b_0 _) rfl rfl (st := []) (st1 := [.long r_206]) rfl rfl (Nat.le_of_ble_eq_true rfl) ⟨by show ce ≤ 600000; omega, by show sl ≤ 7302250; omega⟩ dL_law_781 ?_
                                    refine go_aload_n hC dL_law_784 rfl 2 rfl ?_
                                    refine go_aload_n hC dL_law_785 rfl 0 rfl ?_
                                    refine go_iload_n hC dL_law_786 rfl 3 rfl ?_
                                    refine go_iconst hC dL_law_787 k1_1 ?_
                                    refine go_iadd hC dL_law_788 ?_
                                    obtain ⟨g_207, hf⟩ := ga_e hf
                                    refine go_sld hC hX g_207 dL_law_789 ?_
                                    refine go_aload_n hC dL_law_790 rfl 0 rfl ?_
                                    refine go_iload_n hC dL_law_791 rfl 3 rfl ?_
                                    refine go_iconst hC dL_law_792 k1_2 ?_
                                    refine go_iadd hC dL_law_793 ?_
                                    obtain ⟨g_208, hf⟩ := ga_e hf
                                    refine go_sld hC hX g_208 dL_law_794 ?_
                                    refine go_aload_n hC dL_law_795 rfl 0 rfl ?_
                                    refine go_iload_n hC dL_law_796 rfl 3 rfl ?_
                                    refine go_iconst hC dL_law_797 k1_3 ?_
                                    refine go_iadd hC dL_law_798 ?_
                                    obtain ⟨g_209, hf⟩ := ga_e hf
                                    refine go_sld hC hX g_209 dL_law_799 ?_
                                    obtain ⟨r_210, h_211, hc, hf⟩ := bd_e2 hf
                                    refine go_callV hC (c_X12_drop (xs (x3 + 1).toNatClampNeg) (xs (x3 + 2).toNatClampNeg) (xs (x3 + 3).toNatClampNeg) h h_211 r_210 hc) (gi_l gL_law_X12_drop) rfl ⟨rfl, rfl⟩ 3 e_X12_drop ⟨Nat.le_of_ble_eq_true rfl, Nat.le_of_ble_eq_true rfl⟩ (b_43 _) rfl rfl (st := [.long r_206]) (st1 := [.long r_210, .long r_206]) rfl rfl (Nat.le_of_ble_eq_true rfl) ⟨by show ce ≤ 600000; omega, by show sl ≤ 7302250; omega⟩ dL_law_800 ?_
                                    refine go_lcmp hC dL_law_803 ?_
                                    refine go_if_eq hC dL_law_804 (tgt := 1676) (by decide) (fun c_213 => ?_) (fun c_213 => ?_)
                                    · replace hf := if_t c_213 hf
                                      obtain ⟨x3_212, ex3_212, hf⟩ := lt_e hf
                                      refine go_iinc hC dL_law_1676 3 rfl k1_7 ex3_212 (Nat.le_of_ble_eq_true rfl) rfl ?_
                                      refine go_goto hC dL_law_1679 (tgt := 18) (by decide) ?_
                                      obtain rfl := so_1 hf
                                      refine go_sub [1, 2, 3, 0] (L' := [(0, .ref 1000000), (1, .ref 0), (2, .ref 43), (3, .int x3_212)]) rfl ?_
                                      refine go_wid (k := ce + 2) (n := sl + 9) (by omega) (by omega) ?_
                                      exact ih (ce + 2) (sl + 9) x3_212 h_211 _ (lp_c hy) (hIs _ _ _ hI hf0) (by omega) (by omega)
                                    · replace hf := if_f c_213 hf
                                      refine go_iconst hC dL_law_807 k1_0 ?_
                                      cases hf
                                  · replace hf := if_f c_16 hf
                                    by_cases c_17 : ((xs x3.toNatClampNeg) &&& 63) = 15
                                    · replace hf := if_t c_17 hf
                                      refine go_tab hC dL_law_33 c_17 (off := 776) (by decide) (by decide) (by decide) (tgt := 809) (by decide) ?_
                                      refine go_aload_n hC dL_law_809 rfl 1 rfl ?_
                                      refine go_aload_n hC dL_law_810 rfl 0 rfl ?_
                                      refine go_iload_n hC dL_law_811 rfl 3 rfl ?_
                                      refine go_iconst hC dL_law_812 k1_1 ?_
                                      refine go_iadd hC dL_law_813 ?_
                                      obtain ⟨g_214, hf⟩ := ga_e hf
                                      refine go_sld hC hX g_214 dL_law_814 ?_
                                      obtain ⟨r_215, hc, hf⟩ := bd_e1 hf
                                      refine go_callV hC (c_X11_tooMuch (xs (x3 + 1).toNatClampNeg) h r_215 hc) (gi_l gL_law_X11_tooMuch) rfl ⟨rfl, rfl⟩ 1 e_X11_tooMuch ⟨Nat.le_of_ble_eq_true rfl, Nat.le_of_ble_eq_true rfl⟩ (b_0 _) rfl rfl (st := []) (st1 := [.int r_215]) rfl rfl (Nat.le_of_ble_eq_true rfl) ⟨by show ce ≤ 600000; omega, by show sl ≤ 7302250; omega⟩ dL_law_815 ?_
                                      refine go_aload_n hC dL_law_818 rfl 2 rfl ?_
                                      refine go_aload_n hC dL_law_819 rfl 0 rfl ?_
                                      refine go_iload_n hC dL_law_820 rfl 3 rfl ?_
                                      refine go_iconst hC dL_law_821 k1_1 ?_
                                      refine go_iadd hC dL_law_822 ?_
                                      obtain ⟨g_216, hf⟩ := ga_e hf
                                      refine go_sld hC hX g_216 dL_law_823 ?_
                                      obtain ⟨r_217, h_218, hc, hf⟩ := bd_e2 hf
                                      refine go_callV hC (c_X12_tooMuch (xs (x3 + 1).toNatClampNeg) h h_218 r_217 hc) (gi_l gL_law_X12_tooMuch) rfl ⟨rfl, rfl⟩ 1 e_X12_tooMuch ⟨Nat.le_of_ble_eq_true rfl, Nat.le_of_ble_eq_true rfl⟩ (b_43 _) rfl rfl (st := [.int r_215]) (st1 := [.int r_217, .int r_215]) rfl rfl (Nat.le_of_ble_eq_true rfl) ⟨by show ce ≤ 600000; omega, by show sl ≤ 7302250; omega⟩ dL_law_824 ?_
                                      refine go_icmp_eq hC dL_law_827 (tgt := 1676) (by decide) (fun c_220 => ?_) (fun c_220 => ?_)
                                      · replace hf := if_t c_220 hf
                                        obtain ⟨x3_219, ex3_219, hf⟩ := lt_e hf
                                        refine go_iinc hC dL_law_1676 3 rfl k1_7 ex3_219 (Nat.le_of_ble_eq_true rfl) rfl ?_
                                        refine go_goto hC dL_law_1679 (tgt := 18) (by decide) ?_
                                        obtain rfl := so_1 hf
                                        refine go_sub [1, 2, 3, 0] (L' := [(0, .ref 1000000), (1, .ref 0), (2, .ref 43), (3, .int x3_219)]) rfl ?_
                                        refine go_wid (k := ce + 2) (n := sl + 9) (by omega) (by omega) ?_
                                        exact ih (ce + 2) (sl + 9) x3_219 h_218 _ (lp_c hy) (hIs _ _ _ hI hf0) (by omega) (by omega)
                                      · replace hf := if_f c_220 hf
                                        refine go_iconst hC dL_law_830 k1_0 ?_
                                        cases hf
                                    · replace hf := if_f c_17 hf
                                      by_cases c_18 : ((xs x3.toNatClampNeg) &&& 63) = 16
                                      · replace hf := if_t c_18 hf
                                        refine go_tab hC dL_law_33 c_18 (off := 799) (by decide) (by decide) (by decide) (tgt := 832) (by decide) ?_
                                        refine go_aload_n hC dL_law_832 rfl 1 rfl ?_
                                        refine go_aload_n hC dL_law_833 rfl 0 rfl ?_
                                        refine go_iload_n hC dL_law_834 rfl 3 rfl ?_
                                        refine go_iconst hC dL_law_835 k1_1 ?_
                                        refine go_iadd hC dL_law_836 ?_
                                        obtain ⟨g_221, hf⟩ := ga_e hf
                                        refine go_sld hC hX g_221 dL_law_837 ?_
                                        refine go_aload_n hC dL_law_838 rfl 0 rfl ?_
                                        refine go_iload_n hC dL_law_839 rfl 3 rfl ?_
                                        refine go_iconst hC dL_law_840 k1_2 ?_
                                        refine go_iadd hC dL_law_841 ?_
                                        obtain ⟨g_222, hf⟩ := ga_e hf
                                        refine go_sld hC hX g_222 dL_law_842 ?_
                                        obtain ⟨r_223, h_224, hc, hf⟩ := bd_e2 hf
                                        refine go_callV hC (c_X11_least (xs (x3 + 1).toNatClampNeg) (xs (x3 + 2).toNatClampNeg) h h_224 r_223 hc) (gi_l gL_law_X11_least) rfl ⟨rfl, rfl⟩ 2 e_X11_least ⟨Nat.le_of_ble_eq_true rfl, Nat.le_of_ble_eq_true rfl⟩ (b_0 _) rfl rfl (st := []) (st1 := [.int r_223]) rfl rfl (Nat.le_of_ble_eq_true rfl) ⟨by show ce ≤ 600000; omega, by show sl ≤ 7302250; omega⟩ dL_law_843 ?_
                                        refine go_aload_n hC dL_law_846 rfl 2 rfl ?_
                                        refine go_aload_n hC dL_law_847 rfl 0 rfl ?_
                                        refine go_iload_n hC dL_law_848 rfl 3 rfl ?_
                                        refine go_iconst hC dL_law_849 k1_1 ?_
                                        refine go_iadd hC dL_law_850 ?_
                                        obtain ⟨g_225, hf⟩ := ga_e hf
                                        refine go_sld hC hX g_225 dL_law_851 ?_
                                        refine go_aload_n hC dL_law_852 rfl 0 rfl ?_
                                        refine go_iload_n hC dL_law_853 rfl 3 rfl ?_
                                        refine go_iconst hC dL_law_854 k1_2 ?_
                                        refine go_iadd hC dL_law_855 ?_
                                        obtain ⟨g_226, hf⟩ := ga_e hf
                                        refine go_sld hC hX g_226 dL_law_856 ?_
                                        obtain ⟨r_227, h_228, hc, hf⟩ := bd_e2 hf
                                        refine go_callV hC (c_X12_least (xs (x3 + 1).toNatClampNeg) (xs (x3 + 2).toNatClampNeg) h_224 h_228 r_227 hc) (gi_l gL_law_X12_least) rfl ⟨rfl, rfl⟩ 2 e_X12_least ⟨Nat.le_of_ble_eq_true rfl, Nat.le_of_ble_eq_true rfl⟩ (b_43 _) rfl rfl (st := [.int r_223]) (st1 := [.int r_227, .int r_223]) rfl rfl (Nat.le_of_ble_eq_true rfl) ⟨by show ce ≤ 600000; omega, by show sl ≤ 7302250; omega⟩ dL_law_857 ?_
                                        refine go_icmp_eq hC dL_law_860 (tgt := 1676) (by decide) (fun c_230 => ?_) (fun c_230 => ?_)
                                        · replace hf := if_t c_230 hf
                                          obtain ⟨x3_229, ex3_229, hf⟩ := lt_e hf
                                          refine go_iinc hC dL_law_1676 3 rfl k1_7 ex3_229 (Nat.le_of_ble_eq_true rfl) rfl ?_
                                          refine go_goto hC dL_law_1679 (tgt := 18) (by decide) ?_
                                          obtain rfl := so_1 hf
                                          refine go_sub [1, 2, 3, 0] (L' := [(0, .ref 1000000), (1, .ref 0), (2, .ref 43), (3, .int x3_229)]) rfl ?_
                                          refine go_wid (k := ce + 2) (n := sl + 9) (by omega) (by omega) ?_
                                          exact ih (ce + 2) (sl + 9) x3_229 h_228 _ (lp_c hy) (hIs _ _ _ hI hf0) (by omega) (by omega)
                                        · replace hf := if_f c_230 hf
                                          refine go_iconst hC dL_law_863 k1_0 ?_
                                          cases hf
                                      · replace hf := if_f c_18 hf
                                        by_cases c_19 : ((xs x3.toNatClampNeg) &&& 63) = 17
                                        · replace hf := if_t c_19 hf
                                          refine go_tab hC dL_law_33 c_19 (off := 832) (by decide) (by decide) (by decide) (tgt := 865) (by decide) ?_
                                          refine go_aload_n hC dL_law_865 rfl 1 rfl ?_
                                          refine go_aload_n hC dL_law_866 rfl 0 rfl ?_
                                          refine go_iload_n hC dL_law_867 rfl 3 rfl ?_
                                          refine go_iconst hC dL_law_868 k1_1 ?_
                                          refine go_iadd hC dL_law_869 ?_
                                          obtain ⟨g_231, hf⟩ := ga_e hf
                                          refine go_sld hC hX g_231 dL_law_870 ?_
                                          refine go_aload_n hC dL_law_871 rfl 0 rfl ?_
                                          refine go_iload_n hC dL_law_872 rfl 3 rfl ?_
                                          refine go_iconst hC dL_law_873 k1_2 ?_
                                          refine go_iadd hC dL_law_874 ?_
                                          obtain ⟨g_232, hf⟩ := ga_e hf
                                          refine go_sld hC hX g_232 dL_law_875 ?_
                                          refine go_aload_n hC dL_law_876 rfl 0 rfl ?_
                                          refine go_iload_n hC dL_law_877 rfl 3 rfl ?_
                                          refine go_iconst hC dL_law_878 k1_3 ?_
                                          refine go_iadd hC dL_law_879 ?_
                                          obtain ⟨g_233, hf⟩ := ga_e hf
                                          refine go_sld hC hX g_233 dL_law_880 ?_
                                          obtain ⟨r_234, h_235, hc, hf⟩ := bd_e2 hf
                                          refine go_callV hC (c_X11_order (xs (x3 + 1).toNatClampNeg) (xs (x3 + 2).toNatClampNeg) (xs (x3 + 3).toNatClampNeg) h h_235 r_234 hc) (gi_l gL_law_X11_order) rfl ⟨rfl, rfl⟩ 3 e_X11_order ⟨Nat.le_of_ble_eq_true rfl, Nat.le_of_ble_eq_true rfl⟩ (b_0 _) rfl rfl (st := []) (st1 := [.int r_234]) rfl rfl (Nat.le_of_ble_eq_true rfl) ⟨by show ce ≤ 600000; omega, by show sl ≤ 7302250; omega⟩ dL_law_881 ?_
                                          refine go_aload_n hC dL_law_884 rfl 2 rfl ?_
                                          refine go_aload_n hC dL_law_885 rfl 0 rfl ?_
                                          refine go_iload_n hC dL_law_886 rfl 3 rfl ?_
                                          refine go_iconst hC dL_law_887 k1_1 ?_
                                          refine go_iadd hC dL_law_888 ?_
                                          obtain ⟨g_236, hf⟩ := ga_e hf
                                          refine go_sld hC hX g_236 dL_law_889 ?_
                                          refine go_aload_n hC dL_law_890 rfl 0 rfl ?_
                                          refine go_iload_n hC dL_law_891 rfl 3 rfl ?_
                                          refine go_iconst hC dL_law_892 k1_2 ?_
                                          refine go_iadd hC dL_law_893 ?_
                                          obtain ⟨g_237, hf⟩ := ga_e hf
                                          refine go_sld hC hX g_237 dL_law_894 ?_
                                          refine go_aload_n hC dL_law_895 rfl 0 rfl ?_
                                          refine go_iload_n hC dL_law_896 rfl 3 rfl ?_
                                          refine go_iconst hC dL_law_897 k1_3 ?_
                                          refine go_iadd hC dL_law_898 ?_
                                          obtain ⟨g_238, hf⟩ := ga_e hf
                                          refine go_sld hC hX g_238 dL_law_899 ?_
                                          obtain ⟨r_239, h_240, hc, hf⟩ := bd_e2 hf
                                          refine go_callV hC (c_X12_order (xs (x3 + 1).toNatClampNeg) (xs (x3 + 2).toNatClampNeg) (xs (x3 + 3).toNatClampNeg) h_235 h_240 r_239 hc) (gi_l gL_law_X12_order) rfl ⟨rfl, rfl⟩ 3 e_X12_order ⟨Nat.le_of_ble_eq_true rfl, Nat.le_of_ble_eq_true rfl⟩ (b_43 _) rfl rfl (st := [.int r_234]) (st1 := [.int r_239, .int r_234]) rfl rfl (Nat.le_of_ble_eq_true rfl) ⟨by show ce ≤ 600000; omega, by show sl ≤ 7302250; omega⟩ dL_law_900 ?_
                                          refine go_icmp_eq hC dL_law_903 (tgt := 1676) (by decide) (fun c_242 => ?_) (fun c_242 => ?_)
                                          · replace hf := if_t c_242 hf
                                            obtain ⟨x3_241, ex3_241, hf⟩ := lt_e hf
                                            refine go_iinc hC dL_law_1676 3 rfl k1_7 ex3_241 (Nat.le_of_ble_eq_true rfl) rfl ?_
                                            refine go_goto hC dL_law_1679 (tgt := 18) (by decide) ?_
                                            obtain rfl := so_1 hf
                                            refine go_sub [1, 2, 3, 0] (L' := [(0, .ref 1000000), (1, .ref 0), (2, .ref 43), (3, .int x3_241)]) rfl ?_
                                            refine go_wid (k := ce + 2) (n := sl + 9) (by omega) (by omega) ?_
                                            exact ih (ce + 2) (sl + 9) x3_241 h_240 _ (lp_c hy) (hIs _ _ _ hI hf0) (by omega) (by omega)
                                          · replace hf := if_f c_242 hf
                                            refine go_iconst hC dL_law_906 k1_0 ?_
                                            cases hf
                                        · replace hf := if_f c_19 hf
                                          by_cases c_20 : ((xs x3.toNatClampNeg) &&& 63) = 18
                                          · replace hf := if_t c_20 hf
                                            refine go_tab hC dL_law_33 c_20 (off := 875) (by decide) (by decide) (by decide) (tgt := 908) (by decide) ?_
                                            refine go_aload_n hC dL_law_908 rfl 1 rfl ?_
                                            refine go_aload_n hC dL_law_909 rfl 0 rfl ?_
                                            refine go_iload_n hC dL_law_910 rfl 3 rfl ?_
                                            refine go_iconst hC dL_law_911 k1_1 ?_
                                            refine go_iadd hC dL_law_912 ?_
                                            obtain ⟨g_243, hf⟩ := ga_e hf
                                            refine go_sld hC hX g_243 dL_law_913 ?_
                                            refine go_aload_n hC dL_law_914 rfl 0 rfl ?_
                                            refine go_iload_n hC dL_law_915 rfl 3 rfl ?_
                                            refine go_iconst hC dL_law_916 k1_2 ?_
                                            refine go_iadd hC dL_law_917 ?_
                                            obtain ⟨g_244, hf⟩ := ga_e hf
                                            refine go_sld hC hX g_244 dL_law_918 ?_
                                            refine go_aload_n hC dL_law_919 rfl 0 rfl ?_
                                            refine go_iload_n hC dL_law_920 rfl 3 rfl ?_
                                            refine go_iconst hC dL_law_921 k1_3 ?_
                                            refine go_iadd hC dL_law_922 ?_
                                            obtain ⟨g_245, hf⟩ := ga_e hf
                                            refine go_sld hC hX g_245 dL_law_923 ?_
                                            refine go_if_eq hC dL_law_924 (tgt := 931) (by decide) (fun c_274 => ?_) (fun c_274 => ?_)
                                            · replace hf := if_t c_274 hf
                                              refine go_iconst hC dL_law_931 k1_0 ?_
                                              obtain ⟨r_246, h_247, hc, hf⟩ := bd_e2 hf
                                              refine go_callV hC (c_X11_plan (xs (x3 + 1).toNatClampNeg) (xs (x3 + 2).toNatClampNeg) 0 h h_247 r_246 hc) (gi_l gL_law_X11_plan) rfl ⟨rfl, rfl⟩ 3 e_X11_plan ⟨Nat.le_of_ble_eq_true rfl, Nat.le_of_ble_eq_true rfl⟩ (b_0 _) rfl rfl (st := []) (st1 := [.int r_246]) rfl rfl (Nat.le_of_ble_eq_true rfl) ⟨by show ce ≤ 600000; omega, by show sl ≤ 7302250; omega⟩ dL_law_932 ?_
                                              refine go_aload_n hC dL_law_935 rfl 2 rfl ?_
                                              refine go_aload_n hC dL_law_936 rfl 0 rfl ?_
                                              refine go_iload_n hC dL_law_937 rfl 3 rfl ?_
                                              refine go_iconst hC dL_law_938 k1_1 ?_
                                              refine go_iadd hC dL_law_939 ?_
                                              obtain ⟨g_248, hf⟩ := ga_e hf
                                              refine go_sld hC hX g_248 dL_law_940 ?_
                                              refine go_aload_n hC dL_law_941 rfl 0 rfl ?_
                                              refine go_iload_n hC dL_law_942 rfl 3 rfl ?_
                                              refine go_iconst hC dL_law_943 k1_2 ?_
                                              refine go_iadd hC dL_law_944 ?_
                                              obtain ⟨g_249, hf⟩ := ga_e hf
                                              refine go_sld hC hX g_249 dL_law_945 ?_
                                              refine go_aload_n hC dL_law_946 rfl 0 rfl ?_
                                              refine go_iload_n hC dL_law_947 rfl 3 rfl ?_
                                              refine go_iconst hC dL_law_948 k1_3 ?_
                                              refine go_iadd hC dL_law_949 ?_
                                              obtain ⟨g_250, hf⟩ := ga_e hf
                                              refine go_sld hC hX g_250 dL_law_950 ?_
                                              refine go_if_eq hC dL_law_951 (tgt := 958) (by decide) (fun c_259 => ?_) (fun c_259 => ?_)
                                              · replace hf := if_t c_259 hf
                                                refine go_iconst hC dL_law_958 k1_0 ?_
                                                obtain ⟨r_251, h_252, hc, hf⟩ := bd_e2 hf
                                                refine go_callV hC (c_X12_plan (xs (x3 + 1).toNatClampNeg) (xs (x3 + 2).toNatClampNeg) 0 h_247 h_252 r_251 hc) (gi_l gL_law_X12_plan) rfl ⟨rfl, rfl⟩ 3 e_X12_plan ⟨Nat.le_of_ble_eq_true rfl, Nat.le_of_ble_eq_true rfl⟩ (b_43 _) rfl rfl (st := [.int r_246]) (st1 := [.int r_251, .int r_246]) rfl rfl (Nat.le_of_ble_eq_true rfl) ⟨by show ce ≤ 600000; omega, by show sl ≤ 7302250; omega⟩ dL_law_959 ?_
                                                refine go_icmp_eq hC dL_law_962 (tgt := 1676) (by decide) (fun c_254 => ?_) (fun c_254 => ?_)
                                                · replace hf := if_t c_254 hf
                                                  obtain ⟨x3_253, ex3_253, hf⟩ := lt_e hf
                                                  refine go_iinc hC dL_law_1676 3 rfl k1_7 ex3_253 (Nat.le_of_ble_eq_true rfl) rfl ?_
                                                  refine go_goto hC dL_law_1679 (tgt := 18) (by decide) ?_
                                                  obtain rfl := so_1 hf
                                                  refine go_sub [1, 2, 3, 0] (L' := [(0, .ref 1000000), (1, .ref 0), (2, .ref 43), (3, .int x3_253)]) rfl ?_
                                                  refine go_wid (k := ce + 2) (n := sl + 9) (by omega) (by omega) ?_
                                                  exact ih (ce + 2) (sl + 9) x3_253 h_252 _ (lp_c hy) (hIs _ _ _ hI hf0) (by omega) (by omega)
                                                · replace hf := if_f c_254 hf
                                                  refine go_iconst hC dL_law_965 k1_0 ?_
                                                  cases hf
                                              · replace hf := if_f c_259 hf
                                                refine go_iconst hC dL_law_954 k1_1 ?_
                                                refine go_goto hC dL_law_955 (tgt := 959) (by decide) ?_
                                                obtain ⟨r_255, h_256, hc, hf⟩ := bd_e2 hf
                                                refine go_callV hC (c_X12_plan (xs (x3 + 1).toNatClampNeg) (xs (x3 + 2).toNatClampNeg) 1 h_247 h_256 r_255 hc) (gi_l gL_law_X12_plan) rfl ⟨rfl, rfl⟩ 3 e_X12_plan ⟨Nat.le_of_ble_eq_true rfl, Nat.le_of_ble_eq_true rfl⟩ (b_43 _) rfl rfl (st := [.int r_246]) (st1 := [.int r_255, .int r_246]) rfl rfl (Nat.le_of_ble_eq_true rfl) ⟨by show ce ≤ 600000; omega, by show sl ≤ 7302250; omega⟩ dL_law_959 ?_
                                                refine go_icmp_eq hC dL_law_962 (tgt := 1676) (by decide) (fun c_258 => ?_) (fun c_258 => ?_)
                                                · replace hf := if_t c_258 hf
                                                  obtain ⟨x3_257, ex3_257, hf⟩ := lt_e hf
                                                  refine go_iinc hC dL_law_1676 3 rfl k1_7 ex3_257 (Nat.le_of_ble_eq_true rfl) rfl ?_
                                                  refine go_goto hC dL_law_1679 (tgt := 18) (by decide) ?_
                                                  obtain rfl := so_1 hf
                                                  refine go_sub [1, 2, 3, 0] (L' := [(0, .ref 1000000), (1, .ref 0), (2, .ref 43), (3, .int x3_257)]) rfl ?_
                                                  refine go_wid (k := ce + 2) (n := sl + 9) (by omega) (by omega) ?_
                                                  exact ih (ce + 2) (sl + 9) x3_257 h_256 _ (lp_c hy) (hIs _ _ _ hI hf0) (by omega) (by omega)
                                                · replace hf := if_f c_258 hf
                                                  refine go_iconst hC dL_law_965 k1_0 ?_
                                                  cases hf
                                            · replace hf := if_f c_274 hf
                                              refine go_iconst hC dL_law_927 k1_1 ?_
                                              refine go_goto hC dL_law_928 (tgt := 932) (by decide) ?_
                                              obtain ⟨r_260, h_261, hc, hf⟩ := bd_e2 hf
                                              refine go_callV hC (c_X11_plan (xs (x3 + 1).toNatClampNeg) (xs (x3 + 2).toNatClampNeg) 1 h h_261 r_260 hc) (gi_l gL_law_X11_plan) rfl ⟨rfl, rfl⟩ 3 e_X11_plan ⟨Nat.le_of_ble_eq_true rfl, Nat.le_of_ble_eq_true rfl⟩ (b_0 _) rfl rfl (st := []) (st1 := [.int r_260]) rfl rfl (Nat.le_of_ble_eq_true rfl) ⟨by show ce ≤ 600000; omega, by show sl ≤ 7302250; omega⟩ dL_law_932 ?_
                                              refine go_aload_n hC dL_law_935 rfl 2 rfl ?_
                                              refine go_aload_n hC dL_law_936 rfl 0 rfl ?_
                                              refine go_iload_n hC dL_law_937 rfl 3 rfl ?_
                                              refine go_iconst hC dL_law_938 k1_1 ?_
                                              refine go_iadd hC dL_law_939 ?_
                                              obtain ⟨g_262, hf⟩ := ga_e hf
                                              refine go_sld hC hX g_262 dL_law_940 ?_
                                              refine go_aload_n hC dL_law_941 rfl 0 rfl ?_
                                              refine go_iload_n hC dL_law_942 rfl 3 rfl ?_
                                              refine go_iconst hC dL_law_943 k1_2 ?_
                                              refine go_iadd hC dL_law_944 ?_
                                              obtain ⟨g_263, hf⟩ := ga_e hf
                                              refine go_sld hC hX g_263 dL_law_945 ?_
                                              refine go_aload_n hC dL_law_946 rfl 0 rfl ?_
                                              refine go_iload_n hC dL_law_947 rfl 3 rfl ?_
                                              refine go_iconst hC dL_law_948 k1_3 ?_
                                              refine go_iadd hC dL_law_949 ?_
                                              obtain ⟨g_264, hf⟩ := ga_e hf
                                              refine go_sld hC hX g_264 dL_law_950 ?_
                                              refine go_if_eq hC dL_law_951 (tgt := 958) (by decide) (fun c_273 => ?_) (fun c_273 => ?_)
                                              · replace hf := if_t c_273 hf
                                                refine go_iconst hC dL_law_958 k1_0 ?_
                                                obtain ⟨r_265, h_266, hc, hf⟩ := bd_e2 hf
                                                refine go_callV hC (c_X12_plan (xs (x3 + 1).toNatClampNeg) (xs (x3 + 2).toNatClampNeg) 0 h_261 h_266 r_265 hc) (gi_l gL_law_X12_plan) rfl ⟨rfl, rfl⟩ 3 e_X12_plan ⟨Nat.le_of_ble_eq_true rfl, Nat.le_of_ble_eq_true rfl⟩ (b_43 _) rfl rfl (st := [.int r_260]) (st1 := [.int r_265, .int r_260]) rfl rfl (Nat.le_of_ble_eq_true rfl) ⟨by show ce ≤ 600000; omega, by show sl ≤ 7302250; omega⟩ dL_law_959 ?_
                                                refine go_icmp_eq hC dL_law_962 (tgt := 1676) (by decide) (fun c_268 => ?_) (fun c_268 => ?_)
                                                · replace hf := if_t c_268 hf
                                                  obtain ⟨x3_267, ex3_267, hf⟩ := lt_e hf
                                                  refine go_iinc hC dL_law_1676 3 rfl k1_7 ex3_267 (Nat.le_of_ble_eq_true rfl) rfl ?_
                                                  refine go_goto hC dL_law_1679 (tgt := 18) (by decide) ?_
                                                  obtain rfl := so_1 hf
                                                  refine go_sub [1, 2, 3, 0] (L' := [(0, .ref 1000000), (1, .ref 0), (2, .ref 43), (3, .int x3_267)]) rfl ?_
                                                  refine go_wid (k := ce + 2) (n := sl + 9) (by omega) (by omega) ?_
                                                  exact ih (ce + 2) (sl + 9) x3_267 h_266 _ (lp_c hy) (hIs _ _ _ hI hf0) (by omega) (by omega)
                                                · replace hf := if_f c_268 hf
                                                  refine go_iconst hC dL_law_965 k1_0 ?_
                                                  cases hf
                                              · replace hf := if_f c_273 hf
                                                refine go_iconst hC dL_law_954 k1_1 ?_
                                                refine go_goto hC dL_law_955 (tgt := 959) (by decide) ?_
                                                obtain ⟨r_269, h_270, hc, hf⟩ := bd_e2 hf
                                                refine go_callV hC (c_X12_plan (xs (x3 + 1).toNatClampNeg) (xs (x3 + 2).toNatClampNeg) 1 h_261 h_270 r_269 hc) (gi_l gL_law_X12_plan) rfl ⟨rfl, rfl⟩ 3 e_X12_plan ⟨Nat.le_of_ble_eq_true rfl, Nat.le_of_ble_eq_true rfl⟩ (b_43 _) rfl rfl (st := [.int r_260]) (st1 := [.int r_269, .int r_260]) rfl rfl (Nat.le_of_ble_eq_true rfl) ⟨by show ce ≤ 600000; omega, by show sl ≤ 7302250; omega⟩ dL_law_959 ?_
                                                refine go_icmp_eq hC dL_law_962 (tgt := 1676) (by decide) (fun c_272 => ?_) (fun c_272 => ?_)
                                                · replace hf := if_t c_272 hf
                                                  obtain ⟨x3_271, ex3_271, hf⟩ := lt_e hf
                                                  refine go_iinc hC dL_law_1676 3 rfl k1_7 ex3_271 (Nat.le_of_ble_eq_true rfl) rfl ?_
                                                  refine go_goto hC dL_law_1679 (tgt := 18) (by decide) ?_
                                                  obtain rfl := so_1 hf
                                                  refine go_sub [1, 2, 3, 0] (L' := [(0, .ref 1000000), (1, .ref 0), (2, .ref 43), (3, .int x3_271)]) rfl ?_
                                                  refine go_wid (k := ce + 2) (n := sl + 9) (by omega) (by omega) ?_
                                                  exact ih (ce + 2) (sl + 9) x3_271 h_270 _ (lp_c hy) (hIs _ _ _ hI hf0) (by omega) (by omega)
                                                · replace hf := if_f c_272 hf
                                                  refine go_iconst hC dL_law_965 k1_0 ?_
                                                  cases hf
                                          · replace hf := if_f c_20 hf
                                            by_cases c_21 : ((xs x3.toNatClampNeg) &&& 63) = 19
                                            · replace hf := if_t c_21 hf
                                              refine go_tab hC dL_law_33 c_21 (off := 934) (by decide) (by decide) (by decide) (tgt := 967) (by decide) ?_
                                              refine go_aload_n hC dL_law_967 rfl 1 rfl ?_
                                              refine go_aload_n hC dL_law_968 rfl 0 rfl ?_
                                              refine go_iload_n hC dL_law_969 rfl 3 rfl ?_
                                              refine go_iconst hC dL_law_970 k1_1 ?_
                                              refine go_iadd hC dL_law_971 ?_
                                              obtain ⟨g_275, hf⟩ := ga_e hf
                                              refine go_sld hC hX g_275 dL_law_972 ?_
                                              refine go_aload_n hC dL_law_973 rfl 0 rfl ?_
                                              refine go_iload_n hC dL_law_974 rfl 3 rfl ?_
                                              refine go_iconst hC dL_law_975 k1_2 ?_
                                              refine go_iadd hC dL_law_976 ?_
                                              obtain ⟨g_276, hf⟩ := ga_e hf
                                              refine go_sld hC hX g_276 dL_law_977 ?_
                                              refine go_aload_n hC dL_law_978 rfl 0 rfl ?_
                                              refine go_iload_n hC dL_law_979 rfl 3 rfl ?_
                                              refine go_iconst hC dL_law_980 k1_3 ?_
                                              refine go_iadd hC dL_law_981 ?_
                                              obtain ⟨g_277, hf⟩ := ga_e hf
                                              refine go_sld hC hX g_277 dL_law_982 ?_
                                              refine go_if_eq hC dL_law_983 (tgt := 990) (by decide) (fun c_312 => ?_) (fun c_312 => ?_)
                                              · replace hf := if_t c_312 hf
                                                refine go_iconst hC dL_law_990 k1_0 ?_
                                                refine go_aload_n hC dL_law_991 rfl 0 rfl ?_
                                                refine go_iload_n hC dL_law_992 rfl 3 rfl ?_
                                                refine go_iconst hC dL_law_993 k1_4 ?_
                                                refine go_iadd hC dL_law_994 ?_
                                                obtain ⟨g_278, hf⟩ := ga_e hf
                                                refine go_sld hC hX g_278 dL_law_995 ?_
                                                obtain ⟨r_279, h_280, hc, hf⟩ := bd_e2 hf
                                                refine go_callV hC (c_X11_on (xs (x3 + 1).toNatClampNeg) (xs (x3 + 2).toNatClampNeg) 0 (xs (x3 + 4).toNatClampNeg) h h_280 r_279 hc) (gi_l gL_law_X11_on) rfl ⟨rfl, rfl⟩ 4 e_X11_on ⟨Nat.le_of_ble_eq_true rfl, Nat.le_of_ble_eq_true rfl⟩ (b_0 _) rfl rfl (st := []) (st1 := [.int r_279]) rfl rfl (Nat.le_of_ble_eq_true rfl) ⟨by show ce ≤ 600000; omega, by show sl ≤ 7302250; omega⟩ dL_law_996 ?_
                                                refine go_aload_n hC dL_law_999 rfl 2 rfl ?_
                                                refine go_aload_n hC dL_law_1000 rfl 0 rfl ?_
                                                refine go_iload_n hC dL_law_1001 rfl 3 rfl ?_
                                                refine go_iconst hC dL_law_1002 k1_1 ?_
                                                refine go_iadd hC dL_law_1003 ?_
                                                obtain ⟨g_281, hf⟩ := ga_e hf
                                                refine go_sld hC hX g_281 dL_law_1004 ?_
                                                refine go_aload_n hC dL_law_1005 rfl 0 rfl ?_
                                                refine go_iload_n hC dL_law_1006 rfl 3 rfl ?_
                                                refine go_iconst hC dL_law_1007 k1_2 ?_
                                                refine go_iadd hC dL_law_1008 ?_
                                                obtain ⟨g_282, hf⟩ := ga_e hf
                                                refine go_sld hC hX g_282 dL_law_1009 ?_
                                                refine go_aload_n hC dL_law_1010 rfl 0 rfl ?_
                                                refine go_iload_n hC dL_law_1011 rfl 3 rfl ?_
                                                refine go_iconst hC dL_law_1012 k1_3 ?_
                                                refine go_iadd hC dL_law_1013 ?_
                                                obtain ⟨g_283, hf⟩ := ga_e hf
                                                refine go_sld hC hX g_283 dL_law_1014 ?_
                                                refine go_if_eq hC dL_law_1015 (tgt := 1022) (by decide) (fun c_294 => ?_) (fun c_294 => ?_)
                                                · replace hf := if_t c_294 hf
                                                  refine go_iconst hC dL_law_1022 k1_0 ?_
                                                  refine go_aload_n hC dL_law_1023 rfl 0 rfl ?_
                                                  refine go_iload_n hC dL_law_1024 rfl 3 rfl ?_
                                                  refine go_iconst hC dL_law_1025 k1_4 ?_
                                                  refine go_iadd hC dL_law_1026 ?_
                                                  obtain ⟨g_284, hf⟩ := ga_e hf
                                                  refine go_sld hC hX g_284 dL_law_1027 ?_
                                                  obtain ⟨r_285, h_286, hc, hf⟩ := bd_e2 hf
                                                  refine go_callV hC (c_X12_on (xs (x3 + 1).toNatClampNeg) (xs (x3 + 2).toNatClampNeg) 0 (xs (x3 + 4).toNatClampNeg) h_280 h_286 r_285 hc) (gi_l gL_law_X12_on) rfl ⟨rfl, rfl⟩ 4 e_X12_on ⟨Nat.le_of_ble_eq_true rfl, Nat.le_of_ble_eq_true rfl⟩ (b_43 _) rfl rfl (st := [.int r_279]) (st1 := [.int r_285, .int r_279]) rfl rfl (Nat.le_of_ble_eq_true rfl) ⟨by show ce ≤ 600000; omega, by show sl ≤ 7302250; omega⟩ dL_law_1028 ?_
                                                  refine go_icmp_eq hC dL_law_1031 (tgt := 1676) (by decide) (fun c_288 => ?_) (fun c_288 => ?_)
                                                  · replace hf := if_t c_288 hf
                                                    obtain ⟨x3_287, ex3_287, hf⟩ := lt_e hf
                                                    refine go_iinc hC dL_law_1676 3 rfl k1_7 ex3_287 (Nat.le_of_ble_eq_true rfl) rfl ?_
                                                    refine go_goto hC dL_law_1679 (tgt := 18) (by decide) ?_
                                                    obtain rfl := so_1 hf
                                                    refine go_sub [1, 2, 3, 0] (L' := [(0, .ref 1000000), (1, .ref 0), (2, .ref 43), (3, .int x3_287)]) rfl ?_
                                                    refine go_wid (k := ce + 2) (n := sl + 9) (by omega) (by omega) ?_
                                                    exact ih (ce + 2) (sl + 9) x3_287 h_286 _ (lp_c hy) (hIs _ _ _ hI hf0) (by omega) (by omega)
                                                  · replace hf := if_f c_288 hf
                                                    refine go_iconst hC dL_law_1034 k1_0 ?_
                                                    cases hf
                                                · replace hf := if_f c_294 hf
                                                  refine go_iconst hC dL_law_1018 k1_1 ?_
                                                  refine go_goto hC dL_law_1019 (tgt := 1023) (by decide) ?_
                                                  refine go_aload_n hC dL_law_1023 rfl 0 rfl ?_
                                                  refine go_iload_n hC dL_law_1024 rfl 3 rfl ?_
                                                  refine go_iconst hC dL_law_1025 k1_4 ?_
                                                  refine go_iadd hC dL_law_1026 ?_
                                                  obtain ⟨g_289, hf⟩ := ga_e hf
                                                  refine go_sld hC hX g_289 dL_law_1027 ?_
                                                  obtain ⟨r_290, h_291, hc, hf⟩ := bd_e2 hf
                                                  refine go_callV hC (c_X12_on (xs (x3 + 1).toNatClampNeg) (xs (x3 + 2).toNatClampNeg) 1 (xs (x3 + 4).toNatClampNeg) h_280 h_291 r_290 hc) (gi_l gL_law_X12_on) rfl ⟨rfl, rfl⟩ 4 e_X12_on ⟨Nat.le_of_ble_eq_true rfl, Nat.le_of_ble_eq_true rfl⟩ (b_43 _) rfl rfl (st := [.int r_279]) (st1 := [.int r_290, .int r_279]) rfl rfl (Nat.le_of_ble_eq_true rfl) ⟨by show ce ≤ 600000; omega, by show sl ≤ 7302250; omega⟩ dL_law_1028 ?_
                                                  refine go_icmp_eq hC dL_law_1031 (tgt := 1676) (by decide) (fun c_293 => ?_) (fun c_293 => ?_)
                                                  · replace hf := if_t c_293 hf
                                                    obtain ⟨x3_292, ex3_292, hf⟩ := lt_e hf
                                                    refine go_iinc hC dL_law_1676 3 rfl k1_7 ex3_292 (Nat.le_of_ble_eq_true rfl) rfl ?_
                                                    refine go_goto hC dL_law_1679 (tgt := 18) (by decide) ?_
                                                    obtain rfl := so_1 hf
                                                    refine go_sub [1, 2, 3, 0] (L' := [(0, .ref 1000000), (1, .ref 0), (2, .ref 43), (3, .int x3_292)]) rfl ?_
                                                    refine go_wid (k := ce + 2) (n := sl + 9) (by omega) (by omega) ?_
                                                    exact ih (ce + 2) (sl + 9) x3_292 h_291 _ (lp_c hy) (hIs _ _ _ hI hf0) (by omega) (by omega)
                                                  · replace hf := if_f c_293 hf
                                                    refine go_iconst hC dL_law_1034 k1_0 ?_
                                                    cases hf
                                              · replace hf := if_f c_312 hf
                                                refine go_iconst hC dL_law_986 k1_1 ?_
                                                refine go_goto hC dL_law_987 (tgt := 991) (by decide) ?_
                                                refine go_aload_n hC dL_law_991 rfl 0 rfl ?_
                                                refine go_iload_n hC dL_law_992 rfl 3 rfl ?_
                                                refine go_iconst hC dL_law_993 k1_4 ?_
                                                refine go_iadd hC dL_law_994 ?_
                                                obtain ⟨g_295, hf⟩ := ga_e hf
                                                refine go_sld hC hX g_295 dL_law_995 ?_
                                                obtain ⟨r_296, h_297, hc, hf⟩ := bd_e2 hf
                                                refine go_callV hC (c_X11_on (xs (x3 + 1).toNatClampNeg) (xs (x3 + 2).toNatClampNeg) 1 (xs (x3 + 4).toNatClampNeg) h h_297 r_296 hc) (gi_l gL_law_X11_on) rfl ⟨rfl, rfl⟩ 4 e_X11_on ⟨Nat.le_of_ble_eq_true rfl, Nat.le_of_ble_eq_true rfl⟩ (b_0 _) rfl rfl (st := []) (st1 := [.int r_296]) rfl rfl (Nat.le_of_ble_eq_true rfl) ⟨by show ce ≤ 600000; omega, by show sl ≤ 7302250; omega⟩ dL_law_996 ?_
                                                refine go_aload_n hC dL_law_999 rfl 2 rfl ?_
                                                refine go_aload_n hC dL_law_1000 rfl 0 rfl ?_
                                                refine go_iload_n hC dL_law_1001 rfl 3 rfl ?_
                                                refine go_iconst hC dL_law_1002 k1_1 ?_
                                                refine go_iadd hC dL_law_1003 ?_
                                                obtain ⟨g_298, hf⟩ := ga_e hf
                                                refine go_sld hC hX g_298 dL_law_1004 ?_
                                                refine go_aload_n hC dL_law_1005 rfl 0 rfl ?_
                                                refine go_iload_n hC dL_law_1006 rfl 3 rfl ?_
                                                refine go_iconst hC dL_law_1007 k1_2 ?_
                                                refine go_iadd hC dL_law_1008 ?_
                                                obtain ⟨g_299, hf⟩ := ga_e hf
                                                refine go_sld hC hX g_299 dL_law_1009 ?_
                                                refine go_aload_n hC dL_law_1010 rfl 0 rfl ?_
                                                refine go_iload_n hC dL_law_1011 rfl 3 rfl ?_
                                                refine go_iconst hC dL_law_1012 k1_3 ?_
                                                refine go_iadd hC dL_law_1013 ?_
                                                obtain ⟨g_300, hf⟩ := ga_e hf
                                                refine go_sld hC hX g_300 dL_law_1014 ?_
                                                refine go_if_eq hC dL_law_1015 (tgt := 1022) (by decide) (fun c_311 => ?_) (fun c_311 => ?_)
                                                · replace hf := if_t c_311 hf
                                                  refine go_iconst hC dL_law_1022 k1_0 ?_
                                                  refine go_aload_n hC dL_law_1023 rfl 0 rfl ?_
                                                  refine go_iload_n hC dL_law_1024 rfl 3 rfl ?_
                                                  refine go_iconst hC dL_law_1025 k1_4 ?_
                                                  refine go_iadd hC dL_law_1026 ?_
                                                  obtain ⟨g_301, hf⟩ := ga_e hf
                                                  refine go_sld hC hX g_301 dL_law_1027 ?_
                                                  obtain ⟨r_302, h_303, hc, hf⟩ := bd_e2 hf
                                                  refine go_callV hC (c_X12_on (xs (x3 + 1).toNatClampNeg) (xs (x3 + 2).toNatClampNeg) 0 (xs (x3 + 4).toNatClampNeg) h_297 h_303 r_302 hc) (gi_l gL_law_X12_on) rfl ⟨rfl, rfl⟩ 4 e_X12_on ⟨Nat.le_of_ble_eq_true rfl, Nat.le_of_ble_eq_true rfl⟩ (b_43 _) rfl rfl (st := [.int r_296]) (st1 := [.int r_302, .int r_296]) rfl rfl (Nat.le_of_ble_eq_true rfl) ⟨by show ce ≤ 600000; omega, by show sl ≤ 7302250; omega⟩ dL_law_1028 ?_
                                                  refine go_icmp_eq hC dL_law_1031 (tgt := 1676) (by decide) (fun c_305 => ?_) (fun c_305 => ?_)
                                                  · replace hf := if_t c_305 hf
                                                    obtain ⟨x3_304, ex3_304, hf⟩ := lt_e hf
                                                    refine go_iinc hC dL_law_1676 3 rfl k1_7 ex3_304 (Nat.le_of_ble_eq_true rfl) rfl ?_
                                                    refine go_goto hC dL_law_1679 (tgt := 18) (by decide) ?_
                                                    obtain rfl := so_1 hf
                                                    refine go_sub [1, 2, 3, 0] (L' := [(0, .ref 1000000), (1, .ref 0), (2, .ref 43), (3, .int x3_304)]) rfl ?_
                                                    refine go_wid (k := ce + 2) (n := sl + 9) (by omega) (by omega) ?_
                                                    exact ih (ce + 2) (sl + 9) x3_304 h_303 _ (lp_c hy) (hIs _ _ _ hI hf0) (by omega) (by omega)
                                                  · replace hf := if_f c_305 hf
                                                    refine go_iconst hC dL_law_1034 k1_0 ?_
                                                    cases hf
                                                · replace hf := if_f c_311 hf
                                                  refine go_iconst hC dL_law_1018 k1_1 ?_
                                                  refine go_goto hC dL_law_1019 (tgt := 1023) (by decide) ?_
                                                  refine go_aload_n hC dL_law_1023 rfl 0 rfl ?_
                                                  refine go_iload_n hC dL_law_1024 rfl 3 rfl ?_
                                                  refine go_iconst hC dL_law_1025 k1_4 ?_
                                                  refine go_iadd hC dL_law_1026 ?_
                                                  obtain ⟨g_306, hf⟩ := ga_e hf
                                                  refine go_sld hC hX g_306 dL_law_1027 ?_
                                                  obtain ⟨r_307, h_308, hc, hf⟩ := bd_e2 hf
                                                  refine go_callV hC (c_X12_on (xs (x3 + 1).toNatClampNeg) (xs (x3 + 2).toNatClampNeg) 1 (xs (x3 + 4).toNatClampNeg) h_297 h_308 r_307 hc) (gi_l gL_law_X12_on) rfl ⟨rfl, rfl⟩ 4 e_X12_on ⟨Nat.le_of_ble_eq_true rfl, Nat.le_of_ble_eq_true rfl⟩ (b_43 _) rfl rfl (st := [.int r_296]) (st1 := [.int r_307, .int r_296]) rfl rfl (Nat.le_of_ble_eq_true rfl) ⟨by show ce ≤ 600000; omega, by show sl ≤ 7302250; omega⟩ dL_law_1028 ?_
                                                  refine go_icmp_eq hC dL_law_1031 (tgt := 1676) (by decide) (fun c_310 => ?_) (fun c_310 => ?_)
                                                  · replace hf := if_t c_310 hf
                                                    obtain ⟨x3_309, ex3_309, hf⟩ := lt_e hf
                                                    refine go_iinc hC dL_law_1676 3 rfl k1_7 ex3_309 (Nat.le_of_ble_eq_true rfl) rfl ?_
                                                    refine go_goto hC dL_law_1679 (tgt := 18) (by decide) ?_
                                                    obtain rfl := so_1 hf
                                                    refine go_sub [1, 2, 3, 0] (L' := [(0, .ref 1000000), (1, .ref 0), (2, .ref 43), (3, .int x3_309)]) rfl ?_
                                                    refine go_wid (k := ce + 2) (n := sl + 9) (by omega) (by omega) ?_
                                                    exact ih (ce + 2) (sl + 9) x3_309 h_308 _ (lp_c hy) (hIs _ _ _ hI hf0) (by omega) (by omega)
                                                  · replace hf := if_f c_310 hf
                                                    refine go_iconst hC dL_law_1034 k1_0 ?_
                                                    cases hf
                                            · replace hf := if_f c_21 hf
                                              by_cases c_22 : ((xs x3.toNatClampNeg) &&& 63) = 20
                                              · replace hf := if_t c_22 hf
                                                refine go_tab hC dL_law_33 c_22 (off := 1003) (by decide) (by decide) (by decide) (tgt := 1036) (by decide) ?_
                                                refine go_aload_n hC dL_law_1036 rfl 1 rfl ?_
                                                refine go_aload_n hC dL_law_1037 rfl 0 rfl ?_
                                                refine go_iload_n hC dL_law_1038 rfl 3 rfl ?_
                                                refine go_iconst hC dL_law_1039 k1_1 ?_
                                                refine go_iadd hC dL_law_1040 ?_
                                                obtain ⟨g_313, hf⟩ := ga_e hf
                                                refine go_sld hC hX g_313 dL_law_1041 ?_
                                                refine go_aload_n hC dL_law_1042 rfl 0 rfl ?_
                                                refine go_iload_n hC dL_law_1043 rfl 3 rfl ?_
                                                refine go_iconst hC dL_law_1044 k1_2 ?_
                                                refine go_iadd hC dL_law_1045 ?_
                                                obtain ⟨g_314, hf⟩ := ga_e hf
                                                refine go_sld hC hX g_314 dL_law_1046 ?_
                                                refine go_aload_n hC dL_law_1047 rfl 0 rfl ?_
                                                refine go_iload_n hC dL_law_1048 rfl 3 rfl ?_
                                                refine go_iconst hC dL_law_1049 k1_3 ?_
                                                refine go_iadd hC dL_law_1050 ?_
                                                obtain ⟨g_315, hf⟩ := ga_e hf
                                                refine go_sld hC hX g_315 dL_law_1051 ?_
                                                refine go_if_eq hC dL_law_1052 (tgt := 1059) (by decide) (fun c_344 => ?_) (fun c_344 => ?_)
                                                · replace hf := if_t c_344 hf
                                                  refine go_iconst hC dL_law_1059 k1_0 ?_
                                                  obtain ⟨r_316, h_317, hc, hf⟩ := bd_e2 hf
                                                  refine go_callV hC (c_X11_best (xs (x3 + 1).toNatClampNeg) (xs (x3 + 2).toNatClampNeg) 0 h h_317 r_316 hc) (gi_l gL_law_X11_best) rfl ⟨rfl, rfl⟩ 3 e_X11_best ⟨Nat.le_of_ble_eq_true rfl, Nat.le_of_ble_eq_true rfl⟩ (b_0 _) rfl rfl (st := []) (st1 := [.int r_316]) rfl rfl (Nat.le_of_ble_eq_true rfl) ⟨by show ce ≤ 600000; omega, by show sl ≤ 7302250; omega⟩ dL_law_1060 ?_
                                                  refine go_aload_n hC dL_law_1063 rfl 2 rfl ?_
                                                  refine go_aload_n hC dL_law_1064 rfl 0 rfl ?_
                                                  refine go_iload_n hC dL_law_1065 rfl 3 rfl ?_
                                                  refine go_iconst hC dL_law_1066 k1_1 ?_
                                                  refine go_iadd hC dL_law_1067 ?_
                                                  obtain ⟨g_318, hf⟩ := ga_e hf
                                                  refine go_sld hC hX g_318 dL_law_1068 ?_
                                                  refine go_aload_n hC dL_law_1069 rfl 0 rfl ?_
                                                  refine go_iload_n hC dL_law_1070 rfl 3 rfl ?_
                                                  refine go_iconst hC dL_law_1071 k1_2 ?_
                                                  refine go_iadd hC dL_law_1072 ?_
                                                  obtain ⟨g_319, hf⟩ := ga_e hf
                                                  refine go_sld hC hX g_319 dL_law_1073 ?_
                                                  refine go_aload_n hC dL_law_1074 rfl 0 rfl ?_
                                                  refine go_iload_n hC dL_law_1075 rfl 3 rfl ?_
                                                  refine go_iconst hC dL_law_1076 k1_3 ?_
                                                  refine go_iadd hC dL_law_1077 ?_
                                                  obtain ⟨g_320, hf⟩ := ga_e hf
                                                  refine go_sld hC hX g_320 dL_law_1078 ?_
                                                  refine go_if_eq hC dL_law_1079 (tgt := 1086) (by decide) (fun c_329 => ?_) (fun c_329 => ?_)
                                                  · replace hf := if_t c_329 hf
                                                    refine go_iconst hC dL_law_1086 k1_0 ?_
                                                    obtain ⟨r_321, h_322, hc, hf⟩ := bd_e2 hf
                                                    refine go_callV hC (c_X12_best (xs (x3 + 1).toNatClampNeg) (xs (x3 + 2).toNatClampNeg) 0 h_317 h_322 r_321 hc) (gi_l gL_law_X12_best) rfl ⟨rfl, rfl⟩ 3 e_X12_best ⟨Nat.le_of_ble_eq_true rfl, Nat.le_of_ble_eq_true rfl⟩ (b_43 _) rfl rfl (st := [.int r_316]) (st1 := [.int r_321, .int r_316]) rfl rfl (Nat.le_of_ble_eq_true rfl) ⟨by show ce ≤ 600000; omega, by show sl ≤ 7302250; omega⟩ dL_law_1087 ?_
                                                    refine go_icmp_eq hC dL_law_1090 (tgt := 1676) (by decide) (fun c_324 => ?_) (fun c_324 => ?_)
                                                    · replace hf := if_t c_324 hf
                                                      obtain ⟨x3_323, ex3_323, hf⟩ := lt_e hf
                                                      refine go_iinc hC dL_law_1676 3 rfl k1_7 ex3_323 (Nat.le_of_ble_eq_true rfl) rfl ?_
                                                      refine go_goto hC dL_law_1679 (tgt := 18) (by decide) ?_
                                                      obtain rfl := so_1 hf
                                                      refine go_sub [1, 2, 3, 0] (L' := [(0, .ref 1000000), (1, .ref 0), (2, .ref 43), (3, .int x3_323)]) rfl ?_
                                                      refine go_wid (k := ce + 2) (n := sl + 9) (by omega) (by omega) ?_
                                                      exact ih (ce + 2) (sl + 9) x3_323 h_322 _ (lp_c hy) (hIs _ _ _ hI hf0) (by omega) (by omega)
                                                    · replace hf := if_f c_324 hf
                                                      refine go_iconst hC dL_law_1093 k1_0 ?_
                                                      cases hf
                                                  · replace hf := if_f c_329 hf
                                                    refine go_iconst hC dL_law_1082 k1_1 ?_
                                                    refine go_goto hC dL_law_1083 (tgt := 1087) (by decide) ?_
                                                    obtain ⟨r_325, h_326, hc, hf⟩ := bd_e2 hf
                                                    refine go_callV hC (c_X12_best (xs (x3 + 1).toNatClampNeg) (xs (x3 + 2).toNatClampNeg) 1 h_317 h_326 r_325 hc) (gi_l gL_law_X12_best) rfl ⟨rfl, rfl⟩ 3 e_X12_best ⟨Nat.le_of_ble_eq_true rfl, Nat.le_of_ble_eq_true rfl⟩ (b_43 _) rfl rfl (st := [.int r_316]) (st1 := [.int r_325, .int r_316]) rfl rfl (Nat.le_of_ble_eq_true rfl) ⟨by show ce ≤ 600000; omega, by show sl ≤ 7302250; omega⟩ dL_law_1087 ?_
                                                    refine go_icmp_eq hC dL_law_1090 (tgt := 1676) (by decide) (fun c_328 => ?_) (fun c_328 => ?_)
                                                    · replace hf := if_t c_328 hf
                                                      obtain ⟨x3_327, ex3_327, hf⟩ := lt_e hf
                                                      refine go_iinc hC dL_law_1676 3 rfl k1_7 ex3_327 (Nat.le_of_ble_eq_true rfl) rfl ?_
                                                      refine go_goto hC dL_law_1679 (tgt := 18) (by decide) ?_
                                                      obtain rfl := so_1 hf
                                                      refine go_sub [1, 2, 3, 0] (L' := [(0, .ref 1000000), (1, .ref 0), (2, .ref 43), (3, .int x3_327)]) rfl ?_
                                                      refine go_wid (k := ce + 2) (n := sl + 9) (by omega) (by omega) ?_
                                                      exact ih (ce + 2) (sl + 9) x3_327 h_326 _ (lp_c hy) (hIs _ _ _ hI hf0) (by omega) (by omega)
                                                    · replace hf := if_f c_328 hf
                                                      refine go_iconst hC dL_law_1093 k1_0 ?_
                                                      cases hf
                                                · replace hf := if_f c_344 hf
                                                  refine go_iconst hC dL_law_1055 k1_1 ?_
                                                  refine go_goto hC dL_law_1056 (tgt := 1060) (by decide) ?_
                                                  obtain ⟨r_330, h_331, hc, hf⟩ := bd_e2 hf
                                                  refine go_callV hC (c_X11_best (xs (x3 + 1).toNatClampNeg) (xs (x3 + 2).toNatClampNeg) 1 h h_331 r_330 hc) (gi_l gL_law_X11_best) rfl ⟨rfl, rfl⟩ 3 e_X11_best ⟨Nat.le_of_ble_eq_true rfl, Nat.le_of_ble_eq_true rfl⟩ (b_0 _) rfl rfl (st := []) (st1 := [.int r_330]) rfl rfl (Nat.le_of_ble_eq_true rfl) ⟨by show ce ≤ 600000; omega, by show sl ≤ 7302250; omega⟩ dL_law_1060 ?_
                                                  refine go_aload_n hC dL_law_1063 rfl 2 rfl ?_
                                                  refine go_aload_n hC dL_law_1064 rfl 0 rfl ?_
                                                  refine go_iload_n hC dL_law_1065 rfl 3 rfl ?_
                                                  refine go_iconst hC dL_law_1066 k1_1 ?_
                                                  refine go_iadd hC dL_law_1067 ?_
                                                  obtain ⟨g_332, hf⟩ := ga_e hf
                                                  refine go_sld hC hX g_332 dL_law_1068 ?_
                                                  refine go_aload_n hC dL_law_1069 rfl 0 rfl ?_
                                                  refine go_iload_n hC dL_law_1070 rfl 3 rfl ?_
                                                  refine go_iconst hC dL_law_1071 k1_2 ?_
                                                  refine go_iadd hC dL_law_1072 ?_
                                                  obtain ⟨g_333, hf⟩ := ga_e hf
                                                  refine go_sld hC hX g_333 dL_law_1073 ?_
                                                  refine go_aload_n hC dL_law_1074 rfl 0 rfl ?_
                                                  refine go_iload_n hC dL_law_1075 rfl 3 rfl ?_
                                                  refine go_iconst hC dL_law_1076 k1_3 ?_
                                                  refine go_iadd hC dL_law_1077 ?_
                                                  obtain ⟨g_334, hf⟩ := ga_e hf
                                                  refine go_sld hC hX g_334 dL_law_1078 ?_
                                                  refine go_if_eq hC dL_law_1079 (tgt := 1086) (by decide) (fun c_343 => ?_) (fun c_343 => ?_)
                                                  · replace hf := if_t c_343 hf
                                                    refine go_iconst hC dL_law_1086 k1_0 ?_
                                                    obtain ⟨r_335, h_336, hc, hf⟩ := bd_e2 hf
                                                    refine go_callV hC (c_X12_best (xs (x3 + 1).toNatClampNeg) (xs (x3 + 2).toNatClampNeg) 0 h_331 h_336 r_335 hc) (gi_l gL_law_X12_best) rfl ⟨rfl, rfl⟩ 3 e_X12_best ⟨Nat.le_of_ble_eq_true rfl, Nat.le_of_ble_eq_true rfl⟩ (b_43 _) rfl rfl (st := [.int r_330]) (st1 := [.int r_335, .int r_330]) rfl rfl (Nat.le_of_ble_eq_true rfl) ⟨by show ce ≤ 600000; omega, by show sl ≤ 7302250; omega⟩ dL_law_1087 ?_
                                                    refine go_icmp_eq hC dL_law_1090 (tgt := 1676) (by decide) (fun c_338 => ?_) (fun c_338 => ?_)
                                                    · replace hf := if_t c_338 hf
                                                      obtain ⟨x3_337, ex3_337, hf⟩ := lt_e hf
                                                      refine go_iinc hC dL_law_1676 3 rfl k1_7 ex3_337 (Nat.le_of_ble_eq_true rfl) rfl ?_
                                                      refine go_goto hC dL_law_1679 (tgt := 18) (by decide) ?_
                                                      obtain rfl := so_1 hf
                                                      refine go_sub [1, 2, 3, 0] (L' := [(0, .ref 1000000), (1, .ref 0), (2, .ref 43), (3, .int x3_337)]) rfl ?_
                                                      refine go_wid (k := ce + 2) (n := sl + 9) (by omega) (by omega) ?_
                                                      exact ih (ce + 2) (sl + 9) x3_337 h_336 _ (lp_c hy) (hIs _ _ _ hI hf0) (by omega) (by omega)
                                                    · replace hf := if_f c_338 hf
                                                      refine go_iconst hC dL_law_1093 k1_0 ?_
                                                      cases hf
                                                  · replace hf := if_f c_343 hf
                                                    refine go_iconst hC dL_law_1082 k1_1 ?_
                                                    refine go_goto hC dL_law_1083 (tgt := 1087) (by decide) ?_
                                                    obtain ⟨r_339, h_340, hc, hf⟩ := bd_e2 hf
                                                    refine go_callV hC (c_X12_best (xs (x3 + 1).toNatClampNeg) (xs (x3 + 2).toNatClampNeg) 1 h_331 h_340 r_339 hc) (gi_l gL_law_X12_best) rfl ⟨rfl, rfl⟩ 3 e_X12_best ⟨Nat.le_of_ble_eq_true rfl, Nat.le_of_ble_eq_true rfl⟩ (b_43 _) rfl rfl (st := [.int r_330]) (st1 := [.int r_339, .int r_330]) rfl rfl (Nat.le_of_ble_eq_true rfl) ⟨by show ce ≤ 600000; omega, by show sl ≤ 7302250; omega⟩ dL_law_1087 ?_
                                                    refine go_icmp_eq hC dL_law_1090 (tgt := 1676) (by decide) (fun c_342 => ?_) (fun c_342 => ?_)
                                                    · replace hf := if_t c_342 hf
                                                      obtain ⟨x3_341, ex3_341, hf⟩ := lt_e hf
                                                      refine go_iinc hC dL_law_1676 3 rfl k1_7 ex3_341 (Nat.le_of_ble_eq_true rfl) rfl ?_
                                                      refine go_goto hC dL_law_1679 (tgt := 18) (by decide) ?_
                                                      obtain rfl := so_1 hf
                                                      refine go_sub [1, 2, 3, 0] (L' := [(0, .ref 1000000), (1, .ref 0), (2, .ref 43), (3, .int x3_341)]) rfl ?_
                                                      refine go_wid (k := ce + 2) (n := sl + 9) (by omega) (by omega) ?_
                                                      exact ih (ce + 2) (sl + 9) x3_341 h_340 _ (lp_c hy) (hIs _ _ _ hI hf0) (by omega) (by omega)
                                                    · replace hf := if_f c_342 hf
                                                      refine go_iconst hC dL_law_1093 k1_0 ?_
                                                      cases hf
                                              · replace hf := if_f c_22 hf
                                                by_cases c_23 : ((xs x3.toNatClampNeg) &&& 63) = 21
                                                · replace hf := if_t c_23 hf
                                                  refine go_tab hC dL_law_33 c_23 (off := 1062) (by decide) (by decide) (by decide) (tgt := 1095) (by decide) ?_
                                                  refine go_aload_n hC dL_law_1095 rfl 1 rfl ?_
                                                  refine go_aload_n hC dL_law_1096 rfl 0 rfl ?_
                                                  refine go_iload_n hC dL_law_1097 rfl 3 rfl ?_
                                                  refine go_iconst hC dL_law_1098 k1_1 ?_
                                                  refine go_iadd hC dL_law_1099 ?_
                                                  obtain ⟨g_345, hf⟩ := ga_e hf
                                                  refine go_sld hC hX g_345 dL_law_1100 ?_
                                                  refine go_aload_n hC dL_law_1101 rfl 0 rfl ?_
                                                  refine go_iload_n hC dL_law_1102 rfl 3 rfl ?_
                                                  refine go_iconst hC dL_law_1103 k1_2 ?_
                                                  refine go_iadd hC dL_law_1104 ?_
                                                  obtain ⟨g_346, hf⟩ := ga_e hf
                                                  refine go_sld hC hX g_346 dL_law_1105 ?_
                                                  refine go_aload_n hC dL_law_1106 rfl 0 rfl ?_
                                                  refine go_iload_n hC dL_law_1107 rfl 3 rfl ?_
                                                  refine go_iconst hC dL_law_1108 k1_3 ?_
                                                  refine go_iadd hC dL_law_1109 ?_
                                                  obtain ⟨g_347, hf⟩ := ga_e hf
                                                  refine go_sld hC hX g_347 dL_law_1110 ?_
                                                  refine go_aload_n hC dL_law_1111 rfl 0 rfl ?_
                                                  refine go_iload_n hC dL_law_1112 rfl 3 rfl ?_
                                                  refine go_iconst hC dL_law_1113 k1_4 ?_
                                                  refine go_iadd hC dL_law_1114 ?_
                                                  obtain ⟨g_348, hf⟩ := ga_e hf
                                                  refine go_sld hC hX g_348 dL_law_1115 ?_
                                                  refine go_if_eq hC dL_law_1116 (tgt := 1123) (by decide) (fun c_379 => ?_) (fun c_379 => ?_)
                                                  · replace hf := if_t c_379 hf
                                                    refine go_iconst hC dL_law_1123 k1_0 ?_
                                                    obtain ⟨r_349, h_350, hc, hf⟩ := bd_e2 hf
                                                    refine go_callV hC (c_X11_costs (xs (x3 + 1).toNatClampNeg) (xs (x3 + 2).toNatClampNeg) (xs (x3 + 3).toNatClampNeg) 0 h h_350 r_349 hc) (gi_l gL_law_X11_costs) rfl ⟨rfl, rfl⟩ 4 e_X11_costs ⟨Nat.le_of_ble_eq_true rfl, Nat.le_of_ble_eq_true rfl⟩ (b_0 _) rfl rfl (st := []) (st1 := [.int r_349]) rfl rfl (Nat.le_of_ble_eq_true rfl) ⟨by show ce ≤ 600000; omega, by show sl ≤ 7302250; omega⟩ dL_law_1124 ?_
                                                    refine go_aload_n hC dL_law_1127 rfl 2 rfl ?_
                                                    refine go_aload_n hC dL_law_1128 rfl 0 rfl ?_
                                                    refine go_iload_n hC dL_law_1129 rfl 3 rfl ?_
                                                    refine go_iconst hC dL_law_1130 k1_1 ?_
                                                    refine go_iadd hC dL_law_1131 ?_
                                                    obtain ⟨g_351, hf⟩ := ga_e hf
                                                    refine go_sld hC hX g_351 dL_law_1132 ?_
                                                    refine go_aload_n hC dL_law_1133 rfl 0 rfl ?_
                                                    refine go_iload_n hC dL_law_1134 rfl 3 rfl ?_
                                                    refine go_iconst hC dL_law_1135 k1_2 ?_
                                                    refine go_iadd hC dL_law_1136 ?_
                                                    obtain ⟨g_352, hf⟩ := ga_e hf
                                                    refine go_sld hC hX g_352 dL_law_1137 ?_
                                                    refine go_aload_n hC dL_law_1138 rfl 0 rfl ?_
                                                    refine go_iload_n hC dL_law_1139 rfl 3 rfl ?_
                                                    refine go_iconst hC dL_law_1140 k1_3 ?_
                                                    refine go_iadd hC dL_law_1141 ?_
                                                    obtain ⟨g_353, hf⟩ := ga_e hf
                                                    refine go_sld hC hX g_353 dL_law_1142 ?_
                                                    refine go_aload_n hC dL_law_1143 rfl 0 rfl ?_
                                                    refine go_iload_n hC dL_law_1144 rfl 3 rfl ?_
                                                    refine go_iconst hC dL_law_1145 k1_4 ?_
                                                    refine go_iadd hC dL_law_1146 ?_
                                                    obtain ⟨g_354, hf⟩ := ga_e hf
                                                    refine go_sld hC hX g_354 dL_law_1147 ?_
                                                    refine go_if_eq hC dL_law_1148 (tgt := 1155) (by decide) (fun c_363 => ?_) (fun c_363 => ?_)
                                                    · replace hf := if_t c_363 hf
                                                      refine go_iconst hC dL_law_1155 k1_0 ?_
                                                      obtain ⟨r_355, h_356, hc, hf⟩ := bd_e2 hf
                                                      refine go_callV hC (c_X12_costs (xs (x3 + 1).toNatClampNeg) (xs (x3 + 2).toNatClampNeg) (xs (x3 + 3).toNatClampNeg) 0 h_350 h_356 r_355 hc) (gi_l gL_law_X12_costs) rfl ⟨rfl, rfl⟩ 4 e_X12_costs ⟨Nat.le_of_ble_eq_true rfl, Nat.le_of_ble_eq_true rfl⟩ (b_43 _) rfl rfl (st := [.int r_349]) (st1 := [.int r_355, .int r_349]) rfl rfl (Nat.le_of_ble_eq_true rfl) ⟨by show ce ≤ 600000; omega, by show sl ≤ 7302250; omega⟩ dL_law_1156 ?_
                                                      refine go_icmp_eq hC dL_law_1159 (tgt := 1676) (by decide) (fun c_358 => ?_) (fun c_358 => ?_)
                                                      · replace hf := if_t c_358 hf
                                                        obtain ⟨x3_357, ex3_357, hf⟩ := lt_e hf
                                                        refine go_iinc hC dL_law_1676 3 rfl k1_7 ex3_357 (Nat.le_of_ble_eq_true rfl) rfl ?_
                                                        refine go_goto hC dL_law_1679 (tgt := 18) (by decide) ?_
                                                        obtain rfl := so_1 hf
                                                        refine go_sub [1, 2, 3, 0] (L' := [(0, .ref 1000000), (1, .ref 0), (2, .ref 43), (3, .int x3_357)]) rfl ?_
                                                        refine go_wid (k := ce + 2) (n := sl + 9) (by omega) (by omega) ?_
                                                        exact ih (ce + 2) (sl + 9) x3_357 h_356 _ (lp_c hy) (hIs _ _ _ hI hf0) (by omega) (by omega)
                                                      · replace hf := if_f c_358 hf
                                                        refine go_iconst hC dL_law_1162 k1_0 ?_
                                                        cases hf
                                                    · replace hf := if_f c_363 hf
                                                      refine go_iconst hC dL_law_1151 k1_1 ?_
                                                      refine go_goto hC dL_law_1152 (tgt := 1156) (by decide) ?_
                                                      obtain ⟨r_359, h_360, hc, hf⟩ := bd_e2 hf
                                                      refine go_callV hC (c_X12_costs (xs (x3 + 1).toNatClampNeg) (xs (x3 + 2).toNatClampNeg) (xs (x3 + 3).toNatClampNeg) 1 h_350 h_360 r_359 hc) (gi_l gL_law_X12_costs) rfl ⟨rfl, rfl⟩ 4 e_X12_costs ⟨Nat.le_of_ble_eq_true rfl, Nat.le_of_ble_eq_true rfl⟩ (b_43 _) rfl rfl (st := [.int r_349]) (st1 := [.int r_359, .int r_349]) rfl rfl (Nat.le_of_ble_eq_true rfl) ⟨by show ce ≤ 600000; omega, by show sl ≤ 7302250; omega⟩ dL_law_1156 ?_
                                                      refine go_icmp_eq hC dL_law_1159 (tgt := 1676) (by decide) (fun c_362 => ?_) (fun c_362 => ?_)
                                                      · replace hf := if_t c_362 hf
                                                        obtain ⟨x3_361, ex3_361, hf⟩ := lt_e hf
                                                        refine go_iinc hC dL_law_1676 3 rfl k1_7 ex3_361 (Nat.le_of_ble_eq_true rfl) rfl ?_
                                                        refine go_goto hC dL_law_1679 (tgt := 18) (by decide) ?_
                                                        obtain rfl := so_1 hf
                                                        refine go_sub [1, 2, 3, 0] (L' := [(0, .ref 1000000), (1, .ref 0), (2, .ref 43), (3, .int x3_361)]) rfl ?_
                                                        refine go_wid (k := ce + 2) (n := sl + 9) (by omega) (by omega) ?_
                                                        exact ih (ce + 2) (sl + 9) x3_361 h_360 _ (lp_c hy) (hIs _ _ _ hI hf0) (by omega) (by omega)
                                                      · replace hf := if_f c_362 hf
                                                        refine go_iconst hC dL_law_1162 k1_0 ?_
                                                        cases hf
                                                  · replace hf := if_f c_379 hf
                                                    refine go_iconst hC dL_law_1119 k1_1 ?_
                                                    refine go_goto hC dL_law_1120 (tgt := 1124) (by decide) ?_
                                                    obtain ⟨r_364, h_365, hc, hf⟩ := bd_e2 hf
                                                    refine go_callV hC (c_X11_costs (xs (x3 + 1).toNatClampNeg) (xs (x3 + 2).toNatClampNeg) (xs (x3 + 3).toNatClampNeg) 1 h h_365 r_364 hc) (gi_l gL_law_X11_costs) rfl ⟨rfl, rfl⟩ 4 e_X11_costs ⟨Nat.le_of_ble_eq_true rfl, Nat.le_of_ble_eq_true rfl⟩ (b_0 _) rfl rfl (st := []) (st1 := [.int r_364]) rfl rfl (Nat.le_of_ble_eq_true rfl) ⟨by show ce ≤ 600000; omega, by show sl ≤ 7302250; omega⟩ dL_law_1124 ?_
                                                    refine go_aload_n hC dL_law_1127 rfl 2 rfl ?_
                                                    refine go_aload_n hC dL_law_1128 rfl 0 rfl ?_
                                                    refine go_iload_n hC dL_law_1129 rfl 3 rfl ?_
                                                    refine go_iconst hC dL_law_1130 k1_1 ?_
                                                    refine go_iadd hC dL_law_1131 ?_
                                                    obtain ⟨g_366, hf⟩ := ga_e hf
                                                    refine go_sld hC hX g_366 dL_law_1132 ?_
                                                    refine go_aload_n hC dL_law_1133 rfl 0 rfl ?_
                                                    refine go_iload_n hC dL_law_1134 rfl 3 rfl ?_
                                                    refine go_iconst hC dL_law_1135 k1_2 ?_
                                                    refine go_iadd hC dL_law_1136 ?_
                                                    obtain ⟨g_367, hf⟩ := ga_e hf
                                                    refine go_sld hC hX g_367 dL_law_1137 ?_
                                                    refine go_aload_n hC dL_law_1138 rfl 0 rfl ?_
                                                    refine go_iload_n hC dL_law_1139 rfl 3 rfl ?_
                                                    refine go_iconst hC dL_law_1140 k1_3 ?_
                                                    refine go_iadd hC dL_law_1141 ?_
                                                    obtain ⟨g_368, hf⟩ := ga_e hf
                                                    refine go_sld hC hX g_368 dL_law_1142 ?_
                                                    refine go_aload_n hC dL_law_1143 rfl 0 rfl ?_
                                                    refine go_iload_n hC dL_law_1144 rfl 3 rfl ?_
                                                    refine go_iconst hC dL_law_1145 k1_4 ?_
                                                    refine go_iadd hC dL_law_1146 ?_
                                                    obtain ⟨g_369, hf⟩ := ga_e hf
                                                    refine go_sld hC hX g_369 dL_law_1147 ?_
                                                    refine go_if_eq hC dL_law_1148 (tgt := 1155) (by decide) (fun c_378 => ?_) (fun c_378 => ?_)
                                                    · replace hf := if_t c_378 hf
                                                      refine go_iconst hC dL_law_1155 k1_0 ?_
                                                      obtain ⟨r_370, h_371, hc, hf⟩ := bd_e2 hf
                                                      refine go_callV hC (c_X12_costs (xs (x3 + 1).toNatClampNeg) (xs (x3 + 2).toNatClampNeg) (xs (x3 + 3).toNatClampNeg) 0 h_365 h_371 r_370 hc) (gi_l gL_law_X12_costs) rfl ⟨rfl, rfl⟩ 4 e_X12_costs ⟨Nat.le_of_ble_eq_true rfl, Nat.le_of_ble_eq_true rfl⟩ (b_43 _) rfl rfl (st := [.int r_364]) (st1 := [.int r_370, .int r_364]) rfl rfl (Nat.le_of_ble_eq_true rfl) ⟨by show ce ≤ 600000; omega, by show sl ≤ 7302250; omega⟩ dL_law_1156 ?_
                                                      refine go_icmp_eq hC dL_law_1159 (tgt := 1676) (by decide) (fun c_373 => ?_) (fun c_373 => ?_)
                                                      · replace hf := if_t c_373 hf
                                                        obtain ⟨x3_372, ex3_372, hf⟩ := lt_e hf
                                                        refine go_iinc hC dL_law_1676 3 rfl k1_7 ex3_372 (Nat.le_of_ble_eq_true rfl) rfl ?_
                                                        refine go_goto hC dL_law_1679 (tgt := 18) (by decide) ?_
                                                        obtain rfl := so_1 hf
                                                        refine go_sub [1, 2, 3, 0] (L' := [(0, .ref 1000000), (1, .ref 0), (2, .ref 43), (3, .int x3_372)]) rfl ?_
                                                        refine go_wid (k := ce + 2) (n := sl + 9) (by omega) (by omega) ?_
                                                        exact ih (ce + 2) (sl + 9) x3_372 h_371 _ (lp_c hy) (hIs _ _ _ hI hf0) (by omega) (by omega)
                                                      · replace hf := if_f c_373 hf
                                                        refine go_iconst hC dL_law_1162 k1_0 ?_
                                                        cases hf
                                                    · replace hf := if_f c_378 hf
                                                      refine go_iconst hC dL_law_1151 k1_1 ?_
                                                      refine go_goto hC dL_law_1152 (tgt := 1156) (by decide) ?_
                                                      obtain ⟨r_374, h_375, hc, hf⟩ := bd_e2 hf
                                                      refine go_callV hC (c_X12_costs (xs (x3 + 1).toNatClampNeg) (xs (x3 + 2).toNatClampNeg) (xs (x3 + 3).toNatClampNeg) 1 h_365 h_375 r_374 hc) (gi_l gL_law_X12_costs) rfl ⟨rfl, rfl⟩ 4 e_X12_costs ⟨Nat.le_of_ble_eq_true rfl, Nat.le_of_ble_eq_true rfl⟩ (b_43 _) rfl rfl (st := [.int r_364]) (st1 := [.int r_374, .int r_364]) rfl rfl (Nat.le_of_ble_eq_true rfl) ⟨by show ce ≤ 600000; omega, by show sl ≤ 7302250; omega⟩ dL_law_1156 ?_
                                                      refine go_icmp_eq hC dL_law_1159 (tgt := 1676) (by decide) (fun c_377 => ?_) (fun c_377 => ?_)
                                                      · replace hf := if_t c_377 hf
                                                        obtain ⟨x3_376, ex3_376, hf⟩ := lt_e hf
                                                        refine go_iinc hC dL_law_1676 3 rfl k1_7 ex3_376 (Nat.le_of_ble_eq_true rfl) rfl ?_
                                                        refine go_goto hC dL_law_1679 (tgt := 18) (by decide) ?_
                                                        obtain rfl := so_1 hf
                                                        refine go_sub [1, 2, 3, 0] (L' := [(0, .ref 1000000), (1, .ref 0), (2, .ref 43), (3, .int x3_376)]) rfl ?_
                                                        refine go_wid (k := ce + 2) (n := sl + 9) (by omega) (by omega) ?_
                                                        exact ih (ce + 2) (sl + 9) x3_376 h_375 _ (lp_c hy) (hIs _ _ _ hI hf0) (by omega) (by omega)
                                                      · replace hf := if_f c_377 hf
                                                        refine go_iconst hC dL_law_1162 k1_0 ?_
                                                        cases hf
                                                · replace hf := if_f c_23 hf
                                                  by_cases c_24 : ((xs x3.toNatClampNeg) &&& 63) = 22
                                                  · replace hf := if_t c_24 hf
                                                    refine go_tab hC dL_law_33 c_24 (off := 1131) (by decide) (by decide) (by decide) (tgt := 1164) (by decide) ?_
                                                    refine go_aload_n hC dL_law_1164 rfl 1 rfl ?_
                                                    refine go_aload_n hC dL_law_1165 rfl 0 rfl ?_
                                                    refine go_iload_n hC dL_law_1166 rfl 3 rfl ?_
                                                    refine go_iconst hC dL_law_1167 k1_1 ?_
                                                    refine go_iadd hC dL_law_1168 ?_
                                                    obtain ⟨g_380, hf⟩ := ga_e hf
                                                    refine go_sld hC hX g_380 dL_law_1169 ?_
                                                    refine go_aload_n hC dL_law_1170 rfl 0 rfl ?_
                                                    refine go_iload_n hC dL_law_1171 rfl 3 rfl ?_
                                                    refine go_iconst hC dL_law_1172 k1_2 ?_
                                                    refine go_iadd hC dL_law_1173 ?_
                                                    obtain ⟨g_381, hf⟩ := ga_e hf
                                                    refine go_sld hC hX g_381 dL_law_1174 ?_
                                                    obtain ⟨r_382, h_383, hc, hf⟩ := bd_e2 hf
                                                    refine go_callV hC (c_X11_cores (xs (x3 + 1).toNatClampNeg) (xs (x3 + 2).toNatClampNeg) h h_383 r_382 hc) (gi_l gL_law_X11_cores) rfl ⟨rfl, rfl⟩ 2 e_X11_cores ⟨Nat.le_of_ble_eq_true rfl, Nat.le_of_ble_eq_true rfl⟩ (b_0 _) rfl rfl (st := []) (st1 := [.int r_382]) rfl rfl (Nat.le_of_ble_eq_true rfl) ⟨by show ce ≤ 600000; omega, by show sl ≤ 7302250; omega⟩ dL_law_1175 ?_
                                                    refine go_aload_n hC dL_law_1178 rfl 2 rfl ?_
                                                    refine go_aload_n hC dL_law_1179 rfl 0 rfl ?_
                                                    refine go_iload_n hC dL_law_1180 rfl 3 rfl ?_
                                                    refine go_iconst hC dL_law_1181 k1_1 ?_
                                                    refine go_iadd hC dL_law_1182 ?_
                                                    obtain ⟨g_384, hf⟩ := ga_e hf
                                                    refine go_sld hC hX g_384 dL_law_1183 ?_
                                                    refine go_aload_n hC dL_law_1184 rfl 0 rfl ?_
                                                    refine go_iload_n hC dL_law_1185 rfl 3 rfl ?_
                                                    refine go_iconst hC dL_law_1186 k1_2 ?_
                                                    refine go_iadd hC dL_law_1187 ?_
                                                    obtain ⟨g_385, hf⟩ := ga_e hf
                                                    refine go_sld hC hX g_385 dL_law_1188 ?_
                                                    obtain ⟨r_386, h_387, hc, hf⟩ := bd_e2 hf
                                                    refine go_callV hC (c_X12_cores (xs (x3 + 1).toNatClampNeg) (xs (x3 + 2).toNatClampNeg) h_383 h_387 r_386 hc) (gi_l gL_law_X12_cores) rfl ⟨rfl, rfl⟩ 2 e_X12_cores ⟨Nat.le_of_ble_eq_true rfl, Nat.le_of_ble_eq_true rfl⟩ (b_43 _) rfl rfl (st := [.int r_382]) (st1 := [.int r_386, .int r_382]) rfl rfl (Nat.le_of_ble_eq_true rfl) ⟨by show ce ≤ 600000; omega, by show sl ≤ 7302250; omega⟩ dL_law_1189 ?_
                                                    refine go_icmp_eq hC dL_law_1192 (tgt := 1676) (by decide) (fun c_389 => ?_) (fun c_389 => ?_)
                                                    · replace hf := if_t c_389 hf
                                                      obtain ⟨x3_388, ex3_388, hf⟩ := lt_e hf
                                                      refine go_iinc hC dL_law_1676 3 rfl k1_7 ex3_388 (Nat.le_of_ble_eq_true rfl) rfl ?_
                                                      refine go_goto hC dL_law_1679 (tgt := 18) (by decide) ?_
                                                      obtain rfl := so_1 hf
                                                      refine go_sub [1, 2, 3, 0] (L' := [(0, .ref 1000000), (1, .ref 0), (2, .ref 43), (3, .int x3_388)]) rfl ?_
                                                      refine go_wid (k := ce + 2) (n := sl + 9) (by omega) (by omega) ?_
                                                      exact ih (ce + 2) (sl + 9) x3_388 h_387 _ (lp_c hy) (hIs _ _ _ hI hf0) (by omega) (by omega)
                                                    · replace hf := if_f c_389 hf
                                                      refine go_iconst hC dL_law_1195 k1_0 ?_
                                                      cases hf
                                                  · replace hf := if_f c_24 hf
                                                    by_cases c_25 : ((xs x3.toNatClampNeg) &&& 63) = 23
                                                    · replace hf := if_t c_25 hf
                                                      refine go_tab hC dL_law_33 c_25 (off := 1164) (by decide) (by decide) (by decide) (tgt := 1197) (by decide) ?_
                                                      refine go_aload_n hC dL_law_1197 rfl 1 rfl ?_
                                                      refine go_aload_n hC dL_law_1198 rfl 0 rfl ?_
                                                      refine go_iload_n hC dL_law_1199 rfl 3 rfl ?_
                                                      refine go_iconst hC dL_law_1200 k1_1 ?_
                                                      refine go_iadd hC dL_law_1201 ?_
                                                      obtain ⟨g_390, hf⟩ := ga_e hf
                                                      refine go_sld hC hX g_390 dL_law_1202 ?_
                                                      refine go_aload_n hC dL_law_1203 rfl 0 rfl ?_
                                                      refine go_iload_n hC dL_law_1204 rfl 3 rfl ?_
                                                      refine go_iconst hC dL_law_1205 k1_2 ?_
                                                      refine go_iadd hC dL_law_1206 ?_
                                                      obtain ⟨g_391, hf⟩ := ga_e hf
                                                      refine go_sld hC hX g_391 dL_law_1207 ?_
                                                      refine go_aload_n hC dL_law_1208 rfl 0 rfl ?_
                                                      refine go_iload_n hC dL_law_1209 rfl 3 rfl ?_
                                                      refine go_iconst hC dL_law_1210 k1_3 ?_
                                                      refine go_iadd hC dL_law_1211 ?_
                                                      obtain ⟨g_392, hf⟩ := ga_e hf
                                                      refine go_sld hC hX g_392 dL_law_1212 ?_
                                                      obtain ⟨r_393, h_394, hc, hf⟩ := bd_e2 hf
                                                      refine go_callV hC (c_X11_door (xs (x3 + 1).toNatClampNeg) (xs (x3 + 2).toNatClampNeg) (xs (x3 + 3).toNatClampNeg) h h_394 r_393 hc) (gi_l gL_law_X11_door) rfl ⟨rfl, rfl⟩ 3 e_X11_door ⟨Nat.le_of_ble_eq_true rfl, Nat.le_of_ble_eq_true rfl⟩ (b_0 _) rfl rfl (st := []) (st1 := [.int r_393]) rfl rfl (Nat.le_of_ble_eq_true rfl) ⟨by show ce ≤ 600000; omega, by show sl ≤ 7302250; omega⟩ dL_law_1213 ?_
                                                      refine go_aload_n hC dL_law_1216 rfl 2 rfl ?_
                                                      refine go_aload_n hC dL_law_1217 rfl 0 rfl ?_
                                                      refine go_iload_n hC dL_law_1218 rfl 3 rfl ?_
                                                      refine go_iconst hC dL_law_1219 k1_1 ?_
                                                      refine go_iadd hC dL_law_1220 ?_
                                                      obtain ⟨g_395, hf⟩ := ga_e hf
                                                      refine go_sld hC hX g_395 dL_law_1221 ?_
                                                      refine go_aload_n hC dL_law_1222 rfl 0 rfl ?_
                                                      refine go_iload_n hC dL_law_1223 rfl 3 rfl ?_
                                                      refine go_iconst hC dL_law_1224 k1_2 ?_
                                                      refine go_iadd hC dL_law_1225 ?_
                                                      obtain ⟨g_396, hf⟩ := ga_e hf
                                                      refine go_sld hC hX g_396 dL_law_1226 ?_
                                                      refine go_aload_n hC dL_law_1227 rfl 0 rfl ?_
                                                      refine go_iload_n hC dL_law_1228 rfl 3 rfl ?_
                                                      refine go_iconst hC dL_law_1229 k1_3 ?_
                                                      refine go_iadd hC dL_law_1230 ?_
                                                      obtain ⟨g_397, hf⟩ := ga_e hf
                                                      refine go_sld hC hX g_397 dL_law_1231 ?_
                                                      obtain ⟨r_398, h_399, hc, hf⟩ := bd_e2 hf
                                                      refine go_callV hC (c_X12_door (xs (x3 + 1).toNatClampNeg) (xs (x3 + 2).toNatClampNeg) (xs (x3 + 3).toNatClampNeg) h_394 h_399 r_398 hc) (gi_l gL_law_X12_door) rfl ⟨rfl, rfl⟩ 3 e_X12_door ⟨Nat.le_of_ble_eq_true rfl, Nat.le_of_ble_eq_true rfl⟩ (b_43 _) rfl rfl (st := [.int r_393]) (st1 := [.int r_398, .int r_393]) rfl rfl (Nat.le_of_ble_eq_true rfl) ⟨by show ce ≤ 600000; omega, by show sl ≤ 7302250; omega⟩ dL_law_1232 ?_
                                                      refine go_icmp_eq hC dL_law_1235 (tgt := 1676) (by decide) (fun c_401 => ?_) (fun c_401 => ?_)
                                                      · replace hf := if_t c_401 hf
                                                        obtain ⟨x3_400, ex3_400, hf⟩ := lt_e hf
                                                        refine go_iinc hC dL_law_1676 3 rfl k1_7 ex3_400 (Nat.le_of_ble_eq_true rfl) rfl ?_
                                                        refine go_goto hC dL_law_1679 (tgt := 18) (by decide) ?_
                                                        obtain rfl := so_1 hf
                                                        refine go_sub [1, 2, 3, 0] (L' := [(0, .ref 1000000), (1, .ref 0), (2, .ref 43), (3, .int x3_400)]) rfl ?_
                                                        refine go_wid (k := ce + 2) (n := sl + 9) (by omega) (by omega) ?_
                                                        exact ih (ce + 2) (sl + 9) x3_400 h_399 _ (lp_c hy) (hIs _ _ _ hI hf0) (by omega) (by omega)
                                                      · replace hf := if_f c_401 hf
                                                        refine go_iconst hC dL_law_1238 k1_0 ?_
                                                        cases hf
                                                    · replace hf := if_f c_25 hf
                                                      by_cases c_26 : ((xs x3.toNatClampNeg) &&& 63) = 24
                                                      · replace hf := if_t c_26 hf
                                                        refine go_tab hC dL_law_33 c_26 (off := 1207) (by decide) (by decide) (by decide) (tgt := 1240) (by decide) ?_
                                                        refine go_aload_n hC dL_law_1240 rfl 1 rfl ?_
                                                        refine go_aload_n hC dL_law_1241 rfl 0 rfl ?_
                                                        refine go_iload_n hC dL_law_1242 rfl 3 rfl ?_
                                                        refine go_iconst hC dL_law_1243 k1_1 ?_
                                                        refine go_iadd hC dL_law_1244 ?_
                                                        obtain ⟨g_402, hf⟩ := ga_e hf
                                                        refine go_sld hC hX g_402 dL_law_1245 ?_
                                                        refine go_aload_n hC dL_law_1246 rfl 0 rfl ?_
                                                        refine go_iload_n hC dL_law_1247 rfl 3 rfl ?_
                                                        refine go_iconst hC dL_law_1248 k1_2 ?_
                                                        refine go_iadd hC dL_law_1249 ?_
                                                        obtain ⟨g_403, hf⟩ := ga_e hf
                                                        refine go_sld hC hX g_403 dL_law_1250 ?_
                                                        obtain ⟨r_404, h_405, hc, hf⟩ := bd_e2 hf
                                                        refine go_callV hC (c_X11_reading (xs (x3 + 1).toNatClampNeg) (xs (x3 + 2).toNatClampNeg) h h_405 r_404 hc) (gi_l gL_law_X11_reading) rfl ⟨rfl, rfl⟩ 2 e_X11_reading ⟨Nat.le_of_ble_eq_true rfl, Nat.le_of_ble_eq_true rfl⟩ (b_0 _) rfl rfl (st := []) (st1 := [.int r_404]) rfl rfl (Nat.le_of_ble_eq_true rfl) ⟨by show ce ≤ 600000; omega, by show sl ≤ 7302250; omega⟩ dL_law_1251 ?_
                                                        refine go_aload_n hC dL_law_1254 rfl 2 rfl ?_
                                                        refine go_aload_n hC dL_law_1255 rfl 0 rfl ?_
                                                        refine go_iload_n hC dL_law_1256 rfl 3 rfl ?_
                                                        refine go_iconst hC dL_law_1257 k1_1 ?_
                                                        refine go_iadd hC dL_law_1258 ?_
                                                        obtain ⟨g_406, hf⟩ := ga_e hf
                                                        refine go_sld hC hX g_406 dL_law_1259 ?_
                                                        refine go_aload_n hC dL_law_1260 rfl 0 rfl ?_
                                                        refine go_iload_n hC dL_law_1261 rfl 3 rfl ?_
                                                        refine go_iconst hC dL_law_1262 k1_2 ?_
                                                        refine go_iadd hC dL_law_1263 ?_
                                                        obtain ⟨g_407, hf⟩ := ga_e hf
                                                        refine go_sld hC hX g_407 dL_law_1264 ?_
                                                        obtain ⟨r_408, h_409, hc, hf⟩ := bd_e2 hf
                                                        refine go_callV hC (c_X12_reading (xs (x3 + 1).toNatClampNeg) (xs (x3 + 2).toNatClampNeg) h_405 h_409 r_408 hc) (gi_l gL_law_X12_reading) rfl ⟨rfl, rfl⟩ 2 e_X12_reading ⟨Nat.le_of_ble_eq_true rfl, Nat.le_of_ble_eq_true rfl⟩ (b_43 _) rfl rfl (st := [.int r_404]) (st1 := [.int r_408, .int r_404]) rfl rfl (Nat.le_of_ble_eq_true rfl) ⟨by show ce ≤ 600000; omega, by show sl ≤ 7302250; omega⟩ dL_law_1265 ?_
                                                        refine go_icmp_eq hC dL_law_1268 (tgt := 1676) (by decide) (fun c_411 => ?_) (fun c_411 => ?_)
                                                        · replace hf := if_t c_411 hf
                                                          obtain ⟨x3_410, ex3_410, hf⟩ := lt_e hf
                                                          refine go_iinc hC dL_law_1676 3 rfl k1_7 ex3_410 (Nat.le_of_ble_eq_true rfl) rfl ?_
                                                          refine go_goto hC dL_law_1679 (tgt := 18) (by decide) ?_
                                                          obtain rfl := so_1 hf
                                                          refine go_sub [1, 2, 3, 0] (L' := [(0, .ref 1000000), (1, .ref 0), (2, .ref 43), (3, .int x3_410)]) rfl ?_
                                                          refine go_wid (k := ce + 2) (n := sl + 9) (by omega) (by omega) ?_
                                                          exact ih (ce + 2) (sl + 9) x3_410 h_409 _ (lp_c hy) (hIs _ _ _ hI hf0) (by omega) (by omega)
                                                        · replace hf := if_f c_411 hf
                                                          refine go_iconst hC dL_law_1271 k1_0 ?_
                                                          cases hf
                                                      · replace hf := if_f c_26 hf
                                                        by_cases c_27 : ((xs x3.toNatClampNeg) &&& 63) = 25
                                                        · replace hf := if_t c_27 hf
                                                          refine go_tab hC dL_law_33 c_27 (off := 1240) (by decide) (by decide) (by decide) (tgt := 1273) (by decide) ?_
                                                          refine go_aload_n hC dL_law_1273 rfl 1 rfl ?_
                                                          refine go_aload_n hC dL_law_1274 rfl 0 rfl ?_
                                                          refine go_iload_n hC dL_law_1275 rfl 3 rfl ?_
                                                          refine go_iconst hC dL_law_1276 k1_1 ?_
                                                          refine go_iadd hC dL_law_1277 ?_
                                                          obtain ⟨g_412, hf⟩ := ga_e hf
                                                          refine go_sld hC hX g_412 dL_law_1278 ?_
                                                          obtain ⟨r_413, h_414, hc, hf⟩ := bd_e2 hf
                                                          refine go_callV hC (c_X11_back (xs (x3 + 1).toNatClampNeg) h h_414 r_413 hc) (gi_l gL_law_X11_back) rfl ⟨rfl, rfl⟩ 1 e_X11_back ⟨Nat.le_of_ble_eq_true rfl, Nat.le_of_ble_eq_true rfl⟩ (b_0 _) rfl rfl (st := []) (st1 := [.int r_413]) rfl rfl (Nat.le_of_ble_eq_true rfl) ⟨by show ce ≤ 600000; omega, by show sl ≤ 7302250; omega⟩ dL_law_1279 ?_
                                                          refine go_aload_n hC dL_law_1282 rfl 2 rfl ?_
                                                          refine go_aload_n hC dL_law_1283 rfl 0 rfl ?_
                                                          refine go_iload_n hC dL_law_1284 rfl 3 rfl ?_
                                                          refine go_iconst hC dL_law_1285 k1_1 ?_
                                                          refine go_iadd hC dL_law_1286 ?_
                                                          obtain ⟨g_415, hf⟩ := ga_e hf
                                                          refine go_sld hC hX g_415 dL_law_1287 ?_
                                                          obtain ⟨r_416, h_417, hc, hf⟩ := bd_e2 hf
                                                          refine go_callV hC (c_X12_back (xs (x3 + 1).toNatClampNeg) h_414 h_417 r_416 hc) (gi_l gL_law_X12_back) rfl ⟨rfl, rfl⟩ 1 e_X12_back ⟨Nat.le_of_ble_eq_true rfl, Nat.le_of_ble_eq_true rfl⟩ (b_43 _) rfl rfl (st := [.int r_413]) (st1 := [.int r_416, .int r_413]) rfl rfl (Nat.le_of_ble_eq_true rfl) ⟨by show ce ≤ 600000; omega, by show sl ≤ 7302250; omega⟩ dL_law_1288 ?_
                                                          refine go_icmp_eq hC dL_law_1291 (tgt := 1676) (by decide) (fun c_419 => ?_) (fun c_419 => ?_)
                                                          · replace hf := if_t c_419 hf
                                                            obtain ⟨x3_418, ex3_418, hf⟩ := lt_e hf
                                                            refine go_iinc hC dL_law_1676 3 rfl k1_7 ex3_418 (Nat.le_of_ble_eq_true rfl) rfl ?_
                                                            refine go_goto hC dL_law_1679 (tgt := 18) (by decide) ?_
                                                            obtain rfl := so_1 hf
                                                            refine go_sub [1, 2, 3, 0] (L' := [(0, .ref 1000000), (1, .ref 0), (2, .ref 43), (3, .int x3_418)]) rfl ?_
                                                            refine go_wid (k := ce + 2) (n := sl + 9) (by omega) (by omega) ?_
                                                            exact ih (ce + 2) (sl + 9) x3_418 h_417 _ (lp_c hy) (hIs _ _ _ hI hf0) (by omega) (by omega)
                                                          · replace hf := if_f c_419 hf
                                                            refine go_iconst hC dL_law_1294 k1_0 ?_
                                                            cases hf
                                                        · replace hf := if_f c_27 hf
                                                          by_cases c_28 : ((xs x3.toNatClampNeg) &&& 63) = 26
                                                          · replace hf := if_t c_28 hf
                                                            refine go_tab hC dL_law_33 c_28 (off := 1263) (by decide) (by decide) (by decide) (tgt := 1296) (by decide) ?_
                                                            refine go_aload_n hC dL_law_1296 rfl 1 rfl ?_
                                                            refine go_aload_n hC dL_law_1297 rfl 0 rfl ?_
                                                            refine go_iload_n hC dL_law_1298 rfl 3 rfl ?_
                                                            refine go_iconst hC dL_law_1299 k1_1 ?_
                                                            refine go_iadd hC dL_law_1300 ?_
                                                            obtain ⟨g_420, hf⟩ := ga_e hf
                                                            refine go_sld hC hX g_420 dL_law_1301 ?_
                                                            obtain ⟨r_421, h_422, hc, hf⟩ := bd_e2 hf
                                                            refine go_callV hC (c_X11_fits (xs (x3 + 1).toNatClampNeg) h h_422 r_421 hc) (gi_l gL_law_X11_fits) rfl ⟨rfl, rfl⟩ 1 e_X11_fits ⟨Nat.le_of_ble_eq_true rfl, Nat.le_of_ble_eq_true rfl⟩ (b_0 _) rfl rfl (st := []) (st1 := [.int r_421]) rfl rfl (Nat.le_of_ble_eq_true rfl) ⟨by show ce ≤ 600000; omega, by show sl ≤ 7302250; omega⟩ dL_law_1302 ?_
                                                            refine go_aload_n hC dL_law_1305 rfl 2 rfl ?_
                                                            refine go_aload_n hC dL_law_1306 rfl 0 rfl ?_
                                                            refine go_iload_n hC dL_law_1307 rfl 3 rfl ?_
                                                            refine go_iconst hC dL_law_1308 k1_1 ?_
                                                            refine go_iadd hC dL_law_1309 ?_
                                                            obtain ⟨g_423, hf⟩ := ga_e hf
                                                            refine go_sld hC hX g_423 dL_law_1310 ?_
                                                            obtain ⟨r_424, hc, hf⟩ := bd_e1 hf
                                                            refine go_callV hC (c_X12_fits (xs (x3 + 1).toNatClampNeg) h_422 r_424 hc) (gi_l gL_law_X12_fits) rfl ⟨rfl, rfl⟩ 1 e_X12_fits ⟨Nat.le_of_ble_eq_true rfl, Nat.le_of_ble_eq_true rfl⟩ (b_43 _) rfl rfl (st := [.int r_421]) (st1 := [.int r_424, .int r_421]) rfl rfl (Nat.le_of_ble_eq_true rfl) ⟨by show ce ≤ 600000; omega, by show sl ≤ 7302250; omega⟩ dL_law_1311 ?_
                                                            refine go_icmp_eq hC dL_law_1314 (tgt := 1676) (by decide) (fun c_426 => ?_) (fun c_426 => ?_)
                                                            · replace hf := if_t c_426 hf
                                                              obtain ⟨x3_425, ex3_425, hf⟩ := lt_e hf
                                                              refine go_iinc hC dL_law_1676 3 rfl k1_7 ex3_425 (Nat.le_of_ble_eq_true rfl) rfl ?_
                                                              refine go_goto hC dL_law_1679 (tgt := 18) (by decide) ?_
                                                              obtain rfl := so_1 hf
                                                              refine go_sub [1, 2, 3, 0] (L' := [(0, .ref 1000000), (1, .ref 0), (2, .ref 43), (3, .int x3_425)]) rfl ?_
                                                              refine go_wid (k := ce + 2) (n := sl + 9) (by omega) (by omega) ?_
                                                              exact ih (ce + 2) (sl + 9) x3_425 h_422 _ (lp_c hy) (hIs _ _ _ hI hf0) (by omega) (by omega)
                                                            · replace hf := if_f c_426 hf
                                                              refine go_iconst hC dL_law_1317 k1_0 ?_
                                                              cases hf
                                                          · replace hf := if_f c_28 hf
                                                            by_cases c_29 : ((xs x3.toNatClampNeg) &&& 63) = 27
                                                            · replace hf := if_t c_29 hf
                                                              refine go_tab hC dL_law_33 c_29 (off := 1286) (by decide) (by decide) (by decide) (tgt := 1319) (by decide) ?_
                                                              refine go_aload_n hC dL_law_1319 rfl 1 rfl ?_
                                                              obtain ⟨r_427, h_428, hc, hf⟩ := bd_e2 hf
                                                              refine go_callV hC (c_X11_next h h_428 r_427 hc) (gi_l gL_law_X11_next) rfl ⟨rfl, rfl⟩ 0 e_X11_next ⟨Nat.le_of_ble_eq_true rfl, Nat.le_of_ble_eq_true rfl⟩ (b_0 _) rfl rfl (st := []) (st1 := [.int r_427]) rfl rfl (Nat.le_of_ble_eq_true rfl) ⟨by show ce ≤ 600000; omega, by show sl ≤ 7302250; omega⟩ dL_law_1320 ?_
                                                              refine go_aload_n hC dL_law_1323 rfl 2 rfl ?_
                                                              obtain ⟨r_429, hc, hf⟩ := bd_e1 hf
                                                              refine go_callV hC (c_X12_next h_428 r_429 hc) (gi_l gL_law_X12_next) rfl ⟨rfl, rfl⟩ 0 e_X12_next ⟨Nat.le_of_ble_eq_true rfl, Nat.le_of_ble_eq_true rfl⟩ (b_43 _) rfl rfl (st := [.int r_427]) (st1 := [.int r_429, .int r_427]) rfl rfl (Nat.le_of_ble_eq_true rfl) ⟨by show ce ≤ 600000; omega, by show sl ≤ 7302250; omega⟩ dL_law_1324 ?_
                                                              refine go_icmp_eq hC dL_law_1327 (tgt := 1676) (by decide) (fun c_431 => ?_) (fun c_431 => ?_)
                                                              · replace hf := if_t c_431 hf
                                                                obtain ⟨x3_430, ex3_430, hf⟩ := lt_e hf
                                                                refine go_iinc hC dL_law_1676 3 rfl k1_7 ex3_430 (Nat.le_of_ble_eq_true rfl) rfl ?_
                                                                refine go_goto hC dL_law_1679 (tgt := 18) (by decide) ?_
                                                                obtain rfl := so_1 hf
                                                                refine go_sub [1, 2, 3, 0] (L' := [(0, .ref 1000000), (1, .ref 0), (2, .ref 43), (3, .int x3_430)]) rfl ?_
                                                                refine go_wid (k := ce + 2) (n := sl + 9) (by omega) (by omega) ?_
                                                                exact ih (ce + 2) (sl + 9) x3_430 h_428 _ (lp_c hy) (hIs _ _ _ hI hf0) (by omega) (by omega)
                                                              · replace hf := if_f c_431 hf
                                                                refine go_iconst hC dL_law_1330 k1_0 ?_
                                                                cases hf
                                                            · replace hf := if_f c_29 hf
                                                              by_cases c_30 : ((xs x3.toNatClampNeg) &&& 63) = 28
                                                              · replace hf := if_t c_30 hf
                                                                refine go_tab hC dL_law_33 c_30 (off := 1299) (by decide) (by decide) (by decide) (tgt := 1332) (by decide) ?_
                                                                refine go_aload_n hC dL_law_1332 rfl 1 rfl ?_
                                                                refine go_aload_n hC dL_law_1333 rfl 0 rfl ?_
                                                                refine go_iload_n hC dL_law_1334 rfl 3 rfl ?_
                                                                refine go_iconst hC dL_law_1335 k1_1 ?_
                                                                refine go_iadd hC dL_law_1336 ?_
                                                                obtain ⟨g_432, hf⟩ := ga_e hf
                                                                refine go_sld hC hX g_432 dL_law_1337 ?_
                                                                refine go_aload_n hC dL_law_1338 rfl 0 rfl ?_
                                                                refine go_iload_n hC dL_law_1339 rfl 3 rfl ?_
                                                                refine go_iconst hC dL_law_1340 k1_2 ?_
                                                                refine go_iadd hC dL_law_1341 ?_
                                                                obtain ⟨g_433, hf⟩ := ga_e hf
                                                                refine go_sld hC hX g_433 dL_law_1342 ?_
                                                                refine go_aload_n hC dL_law_1343 rfl 0 rfl ?_
                                                                refine go_iload_n hC dL_law_1344 rfl 3 rfl ?_
                                                                refine go_iconst hC dL_law_1345 k1_3 ?_
                                                                refine go_iadd hC dL_law_1346 ?_
                                                                obtain ⟨g_434, hf⟩ := ga_e hf
                                                                refine go_sld hC hX g_434 dL_law_1347 ?_
                                                                obtain ⟨r_435, h_436, hc, hf⟩ := bd_e2 hf
                                                                refine go_callV hC (c_X11_sheet (xs (x3 + 1).toNatClampNeg) (xs (x3 + 2).toNatClampNeg) (xs (x3 + 3).toNatClampNeg) h h_436 r_435 hc) (gi_l gL_law_X11_sheet) rfl ⟨rfl, rfl⟩ 3 e_X11_sheet ⟨Nat.le_of_ble_eq_true rfl, Nat.le_of_ble_eq_true rfl⟩ (b_0 _) rfl rfl (st := []) (st1 := [.int r_435]) rfl rfl (Nat.le_of_ble_eq_true rfl) ⟨by show ce ≤ 600000; omega, by show sl ≤ 7302250; omega⟩ dL_law_1348 ?_
                                                                refine go_aload_n hC dL_law_1351 rfl 2 rfl ?_
                                                                refine go_aload_n hC dL_law_1352 rfl 0 rfl ?_
                                                                refine go_iload_n hC dL_law_1353 rfl 3 rfl ?_
                                                                refine go_iconst hC dL_law_1354 k1_1 ?_
                                                                refine go_iadd hC dL_law_1355 ?_
                                                                obtain ⟨g_437, hf⟩ := ga_e hf
                                                                refine go_sld hC hX g_437 dL_law_1356 ?_
                                                                refine go_aload_n hC dL_law_1357 rfl 0 rfl ?_
                                                                refine go_iload_n hC dL_law_1358 rfl 3 rfl ?_
                                                                refine go_iconst hC dL_law_1359 k1_2 ?_
                                                                refine go_iadd hC dL_law_1360 ?_
                                                                obtain ⟨g_438, hf⟩ := ga_e hf
                                                                refine go_sld hC hX g_438 dL_law_1361 ?_
                                                                refine go_aload_n hC dL_law_1362 rfl 0 rfl ?_
                                                                refine go_iload_n hC dL_law_1363 rfl 3 rfl ?_
                                                                refine go_iconst hC dL_law_1364 k1_3 ?_
                                                                refine go_iadd hC dL_law_1365 ?_
                                                                obtain ⟨g_439, hf⟩ := ga_e hf
                                                                refine go_sld hC hX g_439 dL_law_1366 ?_
                                                                obtain ⟨r_440, h_441, hc, hf⟩ := bd_e2 hf
                                                                refine go_callV hC (c_X12_sheet (xs (x3 + 1).toNatClampNeg) (xs (x3 + 2).toNatClampNeg) (xs (x3 + 3).toNatClampNeg) h_436 h_441 r_440 hc) (gi_l gL_law_X12_sheet) rfl ⟨rfl, rfl⟩ 3 e_X12_sheet ⟨Nat.le_of_ble_eq_true rfl, Nat.le_of_ble_eq_true rfl⟩ (b_43 _) rfl rfl (st := [.int r_435]) (st1 := [.int r_440, .int r_435]) rfl rfl (Nat.le_of_ble_eq_true rfl) ⟨by show ce ≤ 600000; omega, by show sl ≤ 7302250; omega⟩ dL_law_1367 ?_
                                                                refine go_icmp_eq hC dL_law_1370 (tgt := 1676) (by decide) (fun c_443 => ?_) (fun c_443 => ?_)
                                                                · replace hf := if_t c_443 hf
                                                                  obtain ⟨x3_442, ex3_442, hf⟩ := lt_e hf
                                                                  refine go_iinc hC dL_law_1676 3 rfl k1_7 ex3_442 (Nat.le_of_ble_eq_true rfl) rfl ?_
                                                                  refine go_goto hC dL_law_1679 (tgt := 18) (by decide) ?_
                                                                  obtain rfl := so_1 hf
                                                                  refine go_sub [1, 2, 3, 0] (L' := [(0, .ref 1000000), (1, .ref 0), (2, .ref 43), (3, .int x3_442)]) rfl ?_
                                                                  refine go_wid (k := ce + 2) (n := sl + 9) (by omega) (by omega) ?_
                                                                  exact ih (ce + 2) (sl + 9) x3_442 h_441 _ (lp_c hy) (hIs _ _ _ hI hf0) (by omega) (by omega)
                                                                · replace hf := if_f c_443 hf
                                                                  refine go_iconst hC dL_law_1373 k1_0 ?_
                                                                  cases hf
                                                              · replace hf := if_f c_30 hf
                                                                by_cases c_31 : ((xs x3.toNatClampNeg) &&& 63) = 29
                                                                · replace hf := if_t c_31 hf
                                                                  refine go_tab hC dL_law_33 c_31 (off := 1342) (by decide) (by decide) (by decide) (tgt := 1375) (by decide) ?_
                                                                  refine go_aload_n hC dL_law_1375 rfl 1 rfl ?_
                                                                  refine go_aload_n hC dL_law_1376 rfl 0 rfl ?_
                                                                  refine go_iload_n hC dL_law_1377 rfl 3 rfl ?_
                                                                  refine go_iconst hC dL_law_1378 k1_1 ?_
                                                                  refine go_iadd hC dL_law_1379 ?_
                                                                  obtain ⟨g_444, hf⟩ := ga_e hf
                                                                  refine go_sld hC hX g_444 dL_law_1380 ?_
                                                                  obtain ⟨r_445, h_446, hc, hf⟩ := bd_e2 hf
                                                                  refine go_callV hC (c_X11_lose (xs (x3 + 1).toNatClampNeg) h h_446 r_445 hc) (gi_l gL_law_X11_lose) rfl ⟨rfl, rfl⟩ 1 e_X11_lose ⟨Nat.le_of_ble_eq_true rfl, Nat.le_of_ble_eq_true rfl⟩ (b_0 _) rfl rfl (st := []) (st1 := [.int r_445]) rfl rfl (Nat.le_of_ble_eq_true rfl) ⟨by show ce ≤ 600000; omega, by show sl ≤ 7302250; omega⟩ dL_law_1381 ?_
                                                                  refine go_aload_n hC dL_law_1384 rfl 2 rfl ?_
                                                                  refine go_aload_n hC dL_law_1385 rfl 0 rfl ?_
                                                                  refine go_iload_n hC dL_law_1386 rfl 3 rfl ?_
                                                                  refine go_iconst hC dL_law_1387 k1_1 ?_
                                                                  refine go_iadd hC dL_law_1388 ?_
                                                                  obtain ⟨g_447, hf⟩ := ga_e hf
                                                                  refine go_sld hC hX g_447 dL_law_1389 ?_
                                                                  obtain ⟨r_448, h_449, hc, hf⟩ := bd_e2 hf
                                                                  refine go_callV hC (c_X12_lose (xs (x3 + 1).toNatClampNeg) h_446 h_449 r_448 hc) (gi_l gL_law_X12_lose) rfl ⟨rfl, rfl⟩ 1 e_X12_lose ⟨Nat.le_of_ble_eq_true rfl, Nat.le_of_ble_eq_true rfl⟩ (b_43 _) rfl rfl (st := [.int r_445]) (st1 := [.int r_448, .int r_445]) rfl rfl (Nat.le_of_ble_eq_true rfl) ⟨by show ce ≤ 600000; omega, by show sl ≤ 7302250; omega⟩ dL_law_1390 ?_
                                                                  refine go_icmp_eq hC dL_law_1393 (tgt := 1676) (by decide) (fun c_451 => ?_) (fun c_451 => ?_)
                                                                  · replace hf := if_t c_451 hf
                                                                    obtain ⟨x3_450, ex3_450, hf⟩ := lt_e hf
                                                                    refine go_iinc hC dL_law_1676 3 rfl k1_7 ex3_450 (Nat.le_of_ble_eq_true rfl) rfl ?_
                                                                    refine go_goto hC dL_law_1679 (tgt := 18) (by decide) ?_
                                                                    obtain rfl := so_1 hf
                                                                    refine go_sub [1, 2, 3, 0] (L' := [(0, .ref 1000000), (1, .ref 0), (2, .ref 43), (3, .int x3_450)]) rfl ?_
                                                                    refine go_wid (k := ce + 2) (n := sl + 9) (by omega) (by omega) ?_
                                                                    exact ih (ce + 2) (sl + 9) x3_450 h_449 _ (lp_c hy) (hIs _ _ _ hI hf0) (by omega) (by omega)
                                                                  · replace hf := if_f c_451 hf
                                                                    refine go_iconst hC dL_law_1396 k1_0 ?_
                                                                    cases hf
                                                                · replace hf := if_f c_31 hf
                                                                  by_cases c_32 : ((xs x3.toNatClampNeg) &&& 63) = 30
                                                                  · replace hf := if_t c_32 hf
                                                                    refine go_tab hC dL_law_33 c_32 (off := 1365) (by decide) (by decide) (by decide) (tgt := 1398) (by decide) ?_
                                                                    refine go_aload_n hC dL_law_1398 rfl 1 rfl ?_
                                                                    refine go_aload_n hC dL_law_1399 rfl 0 rfl ?_
                                                                    refine go_iload_n hC dL_law_1400 rfl 3 rfl ?_
                                                                    refine go_iconst hC dL_law_1401 k1_1 ?_
                                                                    refine go_iadd hC dL_law_1402 ?_
                                                                    obtain ⟨g_452, hf⟩ := ga_e hf
                                                                    refine go_sld hC hX g_452 dL_law_1403 ?_
                                                                    refine go_aload_n hC dL_law_1404 rfl 0 rfl ?_
                                                                    refine go_iload_n hC dL_law_1405 rfl 3 rfl ?_
                                                                    refine go_iconst hC dL_law_1406 k1_2 ?_
                                                                    refine go_iadd hC dL_law_1407 ?_
                                                                    obtain ⟨g_453, hf⟩ := ga_e hf
                                                                    refine go_sld hC hX g_453 dL_law_1408 ?_
                                                                    refine go_aload_n hC dL_law_1409 rfl 0 rfl ?_
                                                                    refine go_iload_n hC dL_law_1410 rfl 3 rfl ?_
                                                                    refine go_iconst hC dL_law_1411 k1_3 ?_
                                                                    refine go_iadd hC dL_law_1412 ?_
                                                                    obtain ⟨g_454, hf⟩ := ga_e hf
                                                                    refine go_sld hC hX g_454 dL_law_1413 ?_
                                                                    obtain ⟨r_455, h_456, hc, hf⟩ := bd_e2 hf
                                                                    refine go_callV hC (c_X11_put (xs (x3 + 1).toNatClampNeg) (xs (x3 + 2).toNatClampNeg) (xs (x3 + 3).toNatClampNeg) h h_456 r_455 hc) (gi_l gL_law_X11_put) rfl ⟨rfl, rfl⟩ 3 e_X11_put ⟨Nat.le_of_ble_eq_true rfl, Nat.le_of_ble_eq_true rfl⟩ (b_0 _) rfl rfl (st := []) (st1 := [.int r_455]) rfl rfl (Nat.le_of_ble_eq_true rfl) ⟨by show ce ≤ 600000; omega, by show sl ≤ 7302250; omega⟩ dL_law_1414 ?_
                                                                    refine go_aload_n hC dL_law_1417 rfl 2 rfl ?_
                                                                    refine go_aload_n hC dL_law_1418 rfl 0 rfl ?_
                                                                    refine go_iload_n hC dL_law_1419 rfl 3 rfl ?_
                                                                    refine go_iconst hC dL_law_1420 k1_1 ?_
                                                                    refine go_iadd hC dL_law_1421 ?_
                                                                    obtain ⟨g_457, hf⟩ := ga_e hf
                                                                    refine go_sld hC hX g_457 dL_law_1422 ?_
                                                                    refine go_aload_n hC dL_law_1423 rfl 0 rfl ?_
                                                                    refine go_iload_n hC dL_law_1424 rfl 3 rfl ?_
                                                                    refine go_iconst hC dL_law_1425 k1_2 ?_
                                                                    refine go_iadd hC dL_law_1426 ?_
                                                                    obtain ⟨g_458, hf⟩ := ga_e hf
                                                                    refine go_sld hC hX g_458 dL_law_1427 ?_
                                                                    refine go_aload_n hC dL_law_1428 rfl 0 rfl ?_
                                                                    refine go_iload_n hC dL_law_1429 rfl 3 rfl ?_
                                                                    refine go_iconst hC dL_law_1430 k1_3 ?_
                                                                    refine go_iadd hC dL_law_1431 ?_
                                                                    obtain ⟨g_459, hf⟩ := ga_e hf
                                                                    refine go_sld hC hX g_459 dL_law_1432 ?_
                                                                    obtain ⟨r_460, h_461, hc, hf⟩ := bd_e2 hf
                                                                    refine go_callV hC (c_X12_put (xs (x3 + 1).toNatClampNeg) (xs (x3 + 2).toNatClampNeg) (xs (x3 + 3).toNatClampNeg) h_456 h_461 r_460 hc) (gi_l gL_law_X12_put) rfl ⟨rfl, rfl⟩ 3 e_X12_put ⟨Nat.le_of_ble_eq_true rfl, Nat.le_of_ble_eq_true rfl⟩ (b_43 _) rfl rfl (st := [.int r_455]) (st1 := [.int r_460, .int r_455]) rfl rfl (Nat.le_of_ble_eq_true rfl) ⟨by show ce ≤ 600000; omega, by show sl ≤ 7302250; omega⟩ dL_law_1433 ?_
                                                                    refine go_icmp_eq hC dL_law_1436 (tgt := 1676) (by decide) (fun c_463 => ?_) (fun c_463 => ?_)
                                                                    · replace hf := if_t c_463 hf
                                                                      obtain ⟨x3_462, ex3_462, hf⟩ := lt_e hf
                                                                      refine go_iinc hC dL_law_1676 3 rfl k1_7 ex3_462 (Nat.le_of_ble_eq_true rfl) rfl ?_
                                                                      refine go_goto hC dL_law_1679 (tgt := 18) (by decide) ?_
                                                                      obtain rfl := so_1 hf
                                                                      refine go_sub [1, 2, 3, 0] (L' := [(0, .ref 1000000), (1, .ref 0), (2, .ref 43), (3, .int x3_462)]) rfl ?_
                                                                      refine go_wid (k := ce + 2) (n := sl + 9) (by omega) (by omega) ?_
                                                                      exact ih (ce + 2) (sl + 9) x3_462 h_461 _ (lp_c hy) (hIs _ _ _ hI hf0) (by omega) (by omega)
                                                                    · replace hf := if_f c_463 hf
                                                                      refine go_iconst hC dL_law_1439 k1_0 ?_
                                                                      cases hf
                                                                  · replace hf := if_f c_32 hf
                                                                    by_cases c_33 : ((xs x3.toNatClampNeg) &&& 63) = 31
                                                                    · replace hf := if_t c_33 hf
                                                                      refine go_tab hC dL_law_33 c_33 (off := 1408) (by decide) (by decide) (by decide) (tgt := 1441) (by decide) ?_
                                                                      refine go_aload_n hC dL_law_1441 rfl 1 rfl ?_
                                                                      refine go_aload_n hC dL_law_1442 rfl 0 rfl ?_
                                                                      refine go_iload_n hC dL_law_1443 rfl 3 rfl ?_
                                                                      refine go_iconst hC dL_law_1444 k1_1 ?_
                                                                      refine go_iadd hC dL_law_1445 ?_
                                                                      obtain ⟨g_464, hf⟩ := ga_e hf
                                                                      refine go_sld hC hX g_464 dL_law_1446 ?_
                                                                      refine go_aload_n hC dL_law_1447 rfl 0 rfl ?_
                                                                      refine go_iload_n hC dL_law_1448 rfl 3 rfl ?_
                                                                      refine go_iconst hC dL_law_1449 k1_2 ?_
                                                                      refine go_iadd hC dL_law_1450 ?_
                                                                      obtain ⟨g_465, hf⟩ := ga_e hf
                                                                      refine go_sld hC hX g_465 dL_law_1451 ?_
                                                                      refine go_aload_n hC dL_law_1452 rfl 0 rfl ?_
                                                                      refine go_iload_n hC dL_law_1453 rfl 3 rfl ?_
                                                                      refine go_iconst hC dL_law_1454 k1_3 ?_
                                                                      refine go_iadd hC dL_law_1455 ?_
                                                                      obtain ⟨g_466, hf⟩ := ga_e hf
                                                                      refine go_sld hC hX g_466 dL_law_1456 ?_
                                                                      obtain ⟨r_467, h_468, hc, hf⟩ := bd_e2 hf
                                                                      refine go_callV hC (c_X11_cell (xs (x3 + 1).toNatClampNeg) (xs (x3 + 2).toNatClampNeg) (xs (x3 + 3).toNatClampNeg) h h_468 r_467 hc) (gi_l gL_law_X11_cell) rfl ⟨rfl, rfl⟩ 3 e_X11_cell ⟨Nat.le_of_ble_eq_true rfl, Nat.le_of_ble_eq_true rfl⟩ (b_0 _) rfl rfl (st := []) (st1 := [.long r_467]) rfl rfl (Nat.le_of_ble_eq_true rfl) ⟨by show ce ≤ 600000; omega, by show sl ≤ 7302250; omega⟩ dL_law_1457 ?_
                                                                      refine go_aload_n hC dL_law_1460 rfl 2 rfl ?_
                                                                      refine go_aload_n hC dL_law_1461 rfl 0 rfl ?_
                                                                      refine go_iload_n hC dL_law_1462 rfl 3 rfl ?_
                                                                      refine go_iconst hC dL_law_1463 k1_1 ?_
                                                                      refine go_iadd hC dL_law_1464 ?_
                                                                      obtain ⟨g_469, hf⟩ := ga_e hf
                                                                      refine go_sld hC hX g_469 dL_law_1465 ?_
                                                                      refine go_aload_n hC dL_law_1466 rfl 0 rfl ?_
                                                                      refine go_iload_n hC dL_law_1467 rfl 3 rfl ?_
                                                                      refine go_iconst hC dL_law_1468 k1_2 ?_
                                                                      refine go_iadd hC dL_law_1469 ?_
                                                                      obtain ⟨g_470, hf⟩ := ga_e hf
                                                                      refine go_sld hC hX g_470 dL_law_1470 ?_
                                                                      refine go_aload_n hC dL_law_1471 rfl 0 rfl ?_
                                                                      refine go_iload_n hC dL_law_1472 rfl 3 rfl ?_
                                                                      refine go_iconst hC dL_law_1473 k1_3 ?_
                                                                      refine go_iadd hC dL_law_1474 ?_
                                                                      obtain ⟨g_471, hf⟩ := ga_e hf
                                                                      refine go_sld hC hX g_471 dL_law_1475 ?_
                                                                      obtain ⟨r_472, h_473, hc, hf⟩ := bd_e2 hf
                                                                      refine go_callV hC (c_X12_cell (xs (x3 + 1).toNatClampNeg) (xs (x3 + 2).toNatClampNeg) (xs (x3 + 3).toNatClampNeg) h_468 h_473 r_472 hc) (gi_l gL_law_X12_cell) rfl ⟨rfl, rfl⟩ 3 e_X12_cell ⟨Nat.le_of_ble_eq_true rfl, Nat.le_of_ble_eq_true rfl⟩ (b_43 _) rfl rfl (st := [.long r_467]) (st1 := [.long r_472, .long r_467]) rfl rfl (Nat.le_of_ble_eq_true rfl) ⟨by show ce ≤ 600000; omega, by show sl ≤ 7302250; omega⟩ dL_law_1476 ?_
                                                                      refine go_lcmp hC dL_law_1479 ?_
                                                                      refine go_if_eq hC dL_law_1480 (tgt := 1676) (by decide) (fun c_475 => ?_) (fun c_475 => ?_)
                                                                      · replace hf := if_t c_475 hf
                                                                        obtain ⟨x3_474, ex3_474, hf⟩ := lt_e hf
                                                                        refine go_iinc hC dL_law_1676 3 rfl k1_7 ex3_474 (Nat.le_of_ble_eq_true rfl) rfl ?_
                                                                        refine go_goto hC dL_law_1679 (tgt := 18) (by decide) ?_
                                                                        obtain rfl := so_1 hf
                                                                        refine go_sub [1, 2, 3, 0] (L' := [(0, .ref 1000000), (1, .ref 0), (2, .ref 43), (3, .int x3_474)]) rfl ?_
                                                                        refine go_wid (k := ce + 2) (n := sl + 9) (by omega) (by omega) ?_
                                                                        exact ih (ce + 2) (sl + 9) x3_474 h_473 _ (lp_c hy) (hIs _ _ _ hI hf0) (by omega) (by omega)
                                                                      · replace hf := if_f c_475 hf
                                                                        refine go_iconst hC dL_law_1483 k1_0 ?_
                                                                        cases hf
                                                                    · replace hf := if_f c_33 hf
                                                                      by_cases c_34 : ((xs x3.toNatClampNeg) &&& 63) = 32
                                                                      · replace hf := if_t c_34 hf
                                                                        refine go_tab hC dL_law_33 c_34 (off := 1452) (by decide) (by decide) (by decide) (tgt := 1485) (by decide) ?_
                                                                        refine go_aload_n hC dL_law_1485 rfl 1 rfl ?_
                                                                        refine go_aload_n hC dL_law_1486 rfl 0 rfl ?_
                                                                        refine go_iload_n hC dL_law_1487 rfl 3 rfl ?_
                                                                        refine go_iconst hC dL_law_1488 k1_1 ?_
                                                                        refine go_iadd hC dL_law_1489 ?_
                                                                        obtain ⟨g_476, hf⟩ := ga_e hf
                                                                        refine go_sld hC hX g_476 dL_law_1490 ?_
                                                                        refine go_aload_n hC dL_law_1491 rfl 0 rfl ?_
                                                                        refine go_iload_n hC dL_law_1492 rfl 3 rfl ?_
                                                                        refine go_iconst hC dL_law_1493 k1_2 ?_
                                                                        refine go_iadd hC dL_law_1494 ?_
                                                                        obtain ⟨g_477, hf⟩ := ga_e hf
                                                                        refine go_sld hC hX g_477 dL_law_1495 ?_
                                                                        refine go_aload_n hC dL_law_1496 rfl 0 rfl ?_
                                                                        refine go_iload_n hC dL_law_1497 rfl 3 rfl ?_
                                                                        refine go_iconst hC dL_law_1498 k1_3 ?_
                                                                        refine go_iadd hC dL_law_1499 ?_
                                                                        obtain ⟨g_478, hf⟩ := ga_e hf
                                                                        refine go_sld hC hX g_478 dL_law_1500 ?_
                                                                        refine go_aload_n hC dL_law_1501 rfl 0 rfl ?_
                                                                        refine go_iload_n hC dL_law_1502 rfl 3 rfl ?_
                                                                        refine go_iconst hC dL_law_1503 k1_4 ?_
                                                                        refine go_iadd hC dL_law_1504 ?_
                                                                        obtain ⟨g_479, hf⟩ := ga_e hf
                                                                        refine go_sld hC hX g_479 dL_law_1505 ?_
                                                                        refine go_aload_n hC dL_law_1506 rfl 0 rfl ?_
                                                                        refine go_iload_n hC dL_law_1507 rfl 3 rfl ?_
                                                                        refine go_iconst hC dL_law_1508 k1_5 ?_
                                                                        refine go_iadd hC dL_law_1509 ?_
                                                                        obtain ⟨g_480, hf⟩ := ga_e hf
                                                                        refine go_sld hC hX g_480 dL_law_1510 ?_
                                                                        obtain ⟨r_481, h_482, hc, hf⟩ := bd_e2 hf
                                                                        refine go_callV hC (c_X11_copy (xs (x3 + 1).toNatClampNeg) (xs (x3 + 2).toNatClampNeg) (xs (x3 + 3).toNatClampNeg) (xs (x3 + 4).toNatClampNeg) (xs (x3 + 5).toNatClampNeg) h h_482 r_481 hc) (gi_l gL_law_X11_copy) rfl ⟨rfl, rfl⟩ 5 e_X11_copy ⟨Nat.le_of_ble_eq_true rfl, Nat.le_of_ble_eq_true rfl⟩ (b_0 _) rfl rfl (st := []) (st1 := [.int r_481]) rfl rfl (Nat.le_of_ble_eq_true rfl) ⟨by show ce ≤ 600000; omega, by show sl ≤ 7302250; omega⟩ dL_law_1511 ?_
                                                                        refine go_aload_n hC dL_law_1514 rfl 2 rfl ?_
                                                                        refine go_aload_n hC dL_law_1515 rfl 0 rfl ?_
                                                                        refine go_iload_n hC dL_law_1516 rfl 3 rfl ?_
                                                                        refine go_iconst hC dL_law_1517 k1_1 ?_
                                                                        refine go_iadd hC dL_law_1518 ?_
                                                                        obtain ⟨g_483, hf⟩ := ga_e hf
                                                                        refine go_sld hC hX g_483 dL_law_1519 ?_
                                                                        refine go_aload_n hC dL_law_1520 rfl 0 rfl ?_
                                                                        refine go_iload_n hC dL_law_1521 rfl 3 rfl ?_
                                                                        refine go_iconst hC dL_law_1522 k1_2 ?_
                                                                        refine go_iadd hC dL_law_1523 ?_
                                                                        obtain ⟨g_484, hf⟩ := ga_e hf
                                                                        refine go_sld hC hX g_484 dL_law_1524 ?_
                                                                        refine go_aload_n hC dL_law_1525 rfl 0 rfl ?_
                                                                        refine go_iload_n hC dL_law_1526 rfl 3 rfl ?_
                                                                        refine go_iconst hC dL_law_1527 k1_3 ?_
                                                                        refine go_iadd hC dL_law_1528 ?_
                                                                        obtain ⟨g_485, hf⟩ := ga_e hf
                                                                        refine go_sld hC hX g_485 dL_law_1529 ?_
                                                                        refine go_aload_n hC dL_law_1530 rfl 0 rfl ?_
                                                                        refine go_iload_n hC dL_law_1531 rfl 3 rfl ?_
                                                                        refine go_iconst hC dL_law_1532 k1_4 ?_
                                                                        refine go_iadd hC dL_law_1533 ?_
                                                                        obtain ⟨g_486, hf⟩ := ga_e hf
                                                                        refine go_sld hC hX g_486 dL_law_1534 ?_
                                                                        refine go_aload_n hC dL_law_1535 rfl 0 rfl ?_
                                                                        refine go_iload_n hC dL_law_1536 rfl 3 rfl ?_
                                                                        refine go_iconst hC dL_law_1537 k1_5 ?_
                                                                        refine go_iadd hC dL_law_1538 ?_
                                                                        obtain ⟨g_487, hf⟩ := ga_e hf
                                                                        refine go_sld hC hX g_487 dL_law_1539 ?_
                                                                        obtain ⟨r_488, h_489, hc, hf⟩ := bd_e2 hf
                                                                        refine go_callV hC (c_X12_copy (xs (x3 + 1).toNatClampNeg) (xs (x3 + 2).toNatClampNeg) (xs (x3 + 3).toNatClampNeg) (xs (x3 + 4).toNatClampNeg) (xs (x3 + 5).toNatClampNeg) h_482 h_489 r_488 hc) (gi_l gL_law_X12_copy) rfl ⟨rfl, rfl⟩ 5 e_X12_copy ⟨Nat.le_of_ble_eq_true rfl, Nat.le_of_ble_eq_true rfl⟩ (b_43 _) rfl rfl (st := [.int r_481]) (st1 := [.int r_488, .int r_481]) rfl rfl (Nat.le_of_ble_eq_true rfl) ⟨by show ce ≤ 600000; omega, by show sl ≤ 7302250; omega⟩ dL_law_1540 ?_
                                                                        refine go_icmp_eq hC dL_law_1543 (tgt := 1676) (by decide) (fun c_491 => ?_) (fun c_491 => ?_)
                                                                        · replace hf := if_t c_491 hf
                                                                          obtain ⟨x3_490, ex3_490, hf⟩ := lt_e hf
                                                                          refine go_iinc hC dL_law_1676 3 rfl k1_7 ex3_490 (Nat.le_of_ble_eq_true rfl) rfl ?_
                                                                          refine go_goto hC dL_law_1679 (tgt := 18) (by decide) ?_
                                                                          obtain rfl := so_1 hf
                                                                          refine go_sub [1, 2, 3, 0] (L' := [(0, .ref 1000000), (1, .ref 0), (2, .ref 43), (3, .int x3_490)]) rfl ?_
                                                                          refine go_wid (k := ce + 2) (n := sl + 9) (by omega) (by omega) ?_
                                                                          exact ih (ce + 2) (sl + 9) x3_490 h_489 _ (lp_c hy) (hIs _ _ _ hI hf0) (by omega) (by omega)
                                                                        · replace hf := if_f c_491 hf
                                                                          refine go_iconst hC dL_law_1546 k1_0 ?_
                                                                          cases hf
                                                                      · replace hf := if_f c_34 hf
                                                                        by_cases c_35 : ((xs x3.toNatClampNeg) &&& 63) = 33
                                                                        · replace hf := if_t c_35 hf
                                                                          refine go_tab hC dL_law_33 c_35 (off := 1515) (by decide) (by decide) (by decide) (tgt := 1548) (by decide) ?_
                                                                          refine go_aload_n hC dL_law_1548 rfl 1 rfl ?_
                                                                          refine go_aload_n hC dL_law_1549 rfl 0 rfl ?_
                                                                          refine go_iload_n hC dL_law_1550 rfl 3 rfl ?_
                                                                          refine go_iconst hC dL_law_1551 k1_1 ?_
                                                                          refine go_iadd hC dL_law_1552 ?_
                                                                          obtain ⟨g_492, hf⟩ := ga_e hf
                                                                          refine go_sld hC hX g_492 dL_law_1553 ?_
                                                                          obtain ⟨r_493, h_494, hc, hf⟩ := bd_e2 hf
                                                                          refine go_callV hC (c_X11_tell (xs (x3 + 1).toNatClampNeg) h h_494 r_493 hc) hL_law_X11_tell rfl ⟨rfl, rfl⟩ 1 e_X11_tell ⟨Nat.le_of_ble_eq_true rfl, Nat.le_of_ble_eq_true rfl⟩ (b_0 _) rfl rfl (st := []) (st1 := [.int r_493]) rfl rfl (Nat.le_of_ble_eq_true rfl) ⟨by show ce ≤ 600000; omega, by show sl ≤ 7302250; omega⟩ dL_law_1554 ?_
                                                                          refine go_aload_n hC dL_law_1557 rfl 2 rfl ?_
                                                                          refine go_aload_n hC dL_law_1558 rfl 0 rfl ?_
                                                                          refine go_iload_n hC dL_law_1559 rfl 3 rfl ?_
                                                                          refine go_iconst hC dL_law_1560 k1_1 ?_
                                                                          refine go_iadd hC dL_law_1561 ?_
                                                                          obtain ⟨g_495, hf⟩ := ga_e hf
                                                                          refine go_sld hC hX g_495 dL_law_1562 ?_
                                                                          obtain ⟨r_496, h_497, hc, hf⟩ := bd_e2 hf
                                                                          refine go_callV hC (c_X12_tell (xs (x3 + 1).toNatClampNeg) h_494 h_497 r_496 hc) (gi_l gL_law_X12_tell) rfl ⟨rfl, rfl⟩ 1 e_X12_tell ⟨Nat.le_of_ble_eq_true rfl, Nat.le_of_ble_eq_true rfl⟩ (b_43 _) rfl rfl (st := [.int r_493]) (st1 := [.int r_496, .int r_493]) rfl rfl (Nat.le_of_ble_eq_true rfl) ⟨by show ce ≤ 600000; omega, by show sl ≤ 7302250; omega⟩ dL_law_1563 ?_
                                                                          refine go_icmp_eq hC dL_law_1566 (tgt := 1676) (by decide) (fun c_499 => ?_) (fun c_499 => ?_)
                                                                          · replace hf := if_t c_499 hf
                                                                            obtain ⟨x3_498, ex3_498, hf⟩ := lt_e hf
                                                                            refine go_iinc hC dL_law_1676 3 rfl k1_7 ex3_498 (Nat.le_of_ble_eq_true rfl) rfl ?_
                                                                            refine go_goto hC dL_law_1679 (tgt := 18) (by decide) ?_
                                                                            obtain rfl := so_1 hf
                                                                            refine go_sub [1, 2, 3, 0] (L' := [(0, .ref 1000000), (1, .ref 0), (2, .ref 43), (3, .int x3_498)]) rfl ?_
                                                                            refine go_wid (k := ce + 2) (n := sl + 9) (by omega) (by omega) ?_
                                                                            exact ih (ce + 2) (sl + 9) x3_498 h_497 _ (lp_c hy) (hIs _ _ _ hI hf0) (by omega) (by omega)
                                                                          · replace hf := if_f c_499 hf
                                                                            refine go_iconst hC dL_law_1569 k1_0 ?_
                                                                            cases hf
                                                                        · replace hf := if_f c_35 hf
                                                                          by_cases c_36 : ((xs x3.toNatClampNeg) &&& 63) = 34
                                                                          · replace hf := if_t c_36 hf
                                                                            refine go_tab hC dL_law_33 c_36 (off := 1538) (by decide) (by decide) (by decide) (tgt := 1571) (by decide) ?_
                                                                            refine go_aload_n hC dL_law_1571 rfl 1 rfl ?_
                                                                            refine go_aload_n hC dL_law_1572 rfl 0 rfl ?_
                                                                            refine go_iload_n hC dL_law_1573 rfl 3 rfl ?_
                                                                            refine go_iconst hC dL_law_1574 k1_1 ?_
                                                                            refine go_iadd hC dL_law_1575 ?_
                                                                            obtain ⟨g_500, hf⟩ := ga_e hf
                                                                            refine go_sld hC hX g_500 dL_law_1576 ?_
                                                                            obtain ⟨r_501, h_502, hc, hf⟩ := bd_e2 hf
                                                                            refine go_callV hC (c_X11_label (xs (x3 + 1).toNatClampNeg) h h_502 r_501 hc) hL_law_X11_label rfl ⟨rfl, rfl⟩ 1 e_X11_label ⟨Nat.le_of_ble_eq_true rfl, Nat.le_of_ble_eq_true rfl⟩ (b_0 _) rfl rfl (st := []) (st1 := [.int r_501]) rfl rfl (Nat.le_of_ble_eq_true rfl) ⟨by show ce ≤ 600000; omega, by show sl ≤ 7302250; omega⟩ dL_law_1577 ?_
                                                                            refine go_aload_n hC dL_law_1580 rfl 2 rfl ?_
                                                                            refine go_aload_n hC dL_law_1581 rfl 0 rfl ?_
                                                                            refine go_iload_n hC dL_law_1582 rfl 3 rfl ?_
                                                                            refine go_iconst hC dL_law_1583 k1_1 ?_
                                                                            refine go_iadd hC dL_law_1584 ?_
                                                                            obtain ⟨g_503, hf⟩ := ga_e hf
                                                                            refine go_sld hC hX g_503 dL_law_1585 ?_
                                                                            obtain ⟨r_504, h_505, hc, hf⟩ := bd_e2 hf
                                                                            refine go_callV hC (c_X12_label (xs (x3 + 1).toNatClampNeg) h_502 h_505 r_504 hc) (gi_l gL_law_X12_label) rfl ⟨rfl, rfl⟩ 1 e_X12_label ⟨Nat.le_of_ble_eq_true rfl, Nat.le_of_ble_eq_true rfl⟩ (b_43 _) rfl rfl (st := [.int r_501]) (st1 := [.int r_504, .int r_501]) rfl rfl (Nat.le_of_ble_eq_true rfl) ⟨by show ce ≤ 600000; omega, by show sl ≤ 7302250; omega⟩ dL_law_1586 ?_
                                                                            refine go_icmp_eq hC dL_law_1589 (tgt := 1676) (by decide) (fun c_507 => ?_) (fun c_507 => ?_)
                                                                            · replace hf := if_t c_507 hf
                                                                              obtain ⟨x3_506, ex3_506, hf⟩ := lt_e hf
                                                                              refine go_iinc hC dL_law_1676 3 rfl k1_7 ex3_506 (Nat.le_of_ble_eq_true rfl) rfl ?_
                                                                              refine go_goto hC dL_law_1679 (tgt := 18) (by decide) ?_
                                                                              obtain rfl := so_1 hf
                                                                              refine go_sub [1, 2, 3, 0] (L' := [(0, .ref 1000000), (1, .ref 0), (2, .ref 43), (3, .int x3_506)]) rfl ?_
                                                                              refine go_wid (k := ce + 2) (n := sl + 9) (by omega) (by omega) ?_
                                                                              exact ih (ce + 2) (sl + 9) x3_506 h_505 _ (lp_c hy) (hIs _ _ _ hI hf0) (by omega) (by omega)
                                                                            · replace hf := if_f c_507 hf
                                                                              refine go_iconst hC dL_law_1592 k1_0 ?_
                                                                              cases hf
                                                                          · replace hf := if_f c_36 hf
                                                                            by_cases c_37 : ((xs x3.toNatClampNeg) &&& 63) = 35
                                                                            · replace hf := if_t c_37 hf
                                                                              refine go_tab hC dL_law_33 c_37 (off := 1561) (by decide) (by decide) (by decide) (tgt := 1594) (by decide) ?_
                                                                              refine go_aload_n hC dL_law_1594 rfl 1 rfl ?_
                                                                              refine go_aload_n hC dL_law_1595 rfl 0 rfl ?_
                                                                              refine go_iload_n hC dL_law_1596 rfl 3 rfl ?_
                                                                              refine go_iconst hC dL_law_1597 k1_1 ?_
                                                                              refine go_iadd hC dL_law_1598 ?_
                                                                              obtain ⟨g_508, hf⟩ := ga_e hf
                                                                              refine go_sld hC hX g_508 dL_law_1599 ?_
                                                                              refine go_aload_n hC dL_law_1600 rfl 0 rfl ?_
                                                                              refine go_iload_n hC dL_law_1601 rfl 3 rfl ?_
                                                                              refine go_iconst hC dL_law_1602 k1_2 ?_
                                                                              refine go_iadd hC dL_law_1603 ?_
                                                                              obtain ⟨g_509, hf⟩ := ga_e hf
                                                                              refine go_sld hC hX g_509 dL_law_1604 ?_
                                                                              obtain ⟨r_510, h_511, hc, hf⟩ := bd_e2 hf
                                                                              refine go_callV hC (c_X11_as (xs (x3 + 1).toNatClampNeg) (xs (x3 + 2).toNatClampNeg) h h_511 r_510 hc) (gi_l gL_law_X11_as) rfl ⟨rfl, rfl⟩ 2 e_X11_as ⟨Nat.le_of_ble_eq_true rfl, Nat.le_of_ble_eq_true rfl⟩ (b_0 _) rfl rfl (st := []) (st1 := [.int r_510]) rfl rfl (Nat.le_of_ble_eq_true rfl) ⟨by show ce ≤ 600000; omega, by show sl ≤ 7302250; omega⟩ dL_law_1605 ?_
                                                                              refine go_aload_n hC dL_law_1608 rfl 2 rfl ?_
                                                                              refine go_aload_n hC dL_law_1609 rfl 0 rfl ?_
                                                                              refine go_iload_n hC dL_law_1610 rfl 3 rfl ?_
                                                                              refine go_iconst hC dL_law_1611 k1_1 ?_
                                                                              refine go_iadd hC dL_law_1612 ?_
                                                                              obtain ⟨g_512, hf⟩ := ga_e hf
                                                                              refine go_sld hC hX g_512 dL_law_1613 ?_
                                                                              refine go_aload_n hC dL_law_1614 rfl 0 rfl ?_
                                                                              refine go_iload_n hC dL_law_1615 rfl 3 rfl ?_
                                                                              refine go_iconst hC dL_law_1616 k1_2 ?_
                                                                              refine go_iadd hC dL_law_1617 ?_
                                                                              obtain ⟨g_513, hf⟩ := ga_e hf
                                                                              refine go_sld hC hX g_513 dL_law_1618 ?_
                                                                              obtain ⟨r_514, h_515, hc, hf⟩ := bd_e2 hf
                                                                              refine go_callV hC (c_X12_as (xs (x3 + 1).toNatClampNeg) (xs (x3 + 2).toNatClampNeg) h_511 h_515 r_514 hc) (gi_l gL_law_X12_as) rfl ⟨rfl, rfl⟩ 2 e_X12_as ⟨Nat.le_of_ble_eq_true rfl, Nat.le_of_ble_eq_true rfl⟩ (b_43 _) rfl rfl (st := [.int r_510]) (st1 := [.int r_514, .int r_510]) rfl rfl (Nat.le_of_ble_eq_true rfl) ⟨by show ce ≤ 600000; omega, by show sl ≤ 7302250; omega⟩ dL_law_1619 ?_
                                                                              refine go_icmp_eq hC dL_law_1622 (tgt := 1676) (by decide) (fun c_517 => ?_) (fun c_517 => ?_)
                                                                              · replace hf := if_t c_517 hf
                                                                                obtain ⟨x3_516, ex3_516, hf⟩ := lt_e hf
                                                                                refine go_iinc hC dL_law_1676 3 rfl k1_7 ex3_516 (Nat.le_of_ble_eq_true rfl) rfl ?_
                                                                                refine go_goto hC dL_law_1679 (tgt := 18) (by decide) ?_
                                                                                obtain rfl := so_1 hf
                                                                                refine go_sub [1, 2, 3, 0] (L' := [(0, .ref 1000000), (1, .ref 0), (2, .ref 43), (3, .int x3_516)]) rfl ?_
                                                                                refine go_wid (k := ce + 2) (n := sl + 9) (by omega) (by omega) ?_
                                                                                exact ih (ce + 2) (sl + 9) x3_516 h_515 _ (lp_c hy) (hIs _ _ _ hI hf0) (by omega) (by omega)
                                                                              · replace hf := if_f c_517 hf
                                                                                refine go_iconst hC dL_law_1625 k1_0 ?_
                                                                                cases hf
                                                                            · replace hf := if_f c_37 hf
                                                                              by_cases c_38 : ((xs x3.toNatClampNeg) &&& 63) = 36
                                                                              · replace hf := if_t c_38 hf
                                                                                refine go_tab hC dL_law_33 c_38 (off := 1594) (by decide) (by decide) (by decide) (tgt := 1627) (by decide) ?_
                                                                                refine go_aload_n hC dL_law_1627 rfl 1 rfl ?_
                                                                                obtain ⟨r_518, hc, hf⟩ := bd_e1 hf
                                                                                refine go_callV hC (c_X11_trace h r_518 hc) (gi_l gL_law_X11_trace) rfl ⟨rfl, rfl⟩ 0 e_X11_trace ⟨Nat.le_of_ble_eq_true rfl, Nat.le_of_ble_eq_true rfl⟩ (b_0 _) rfl rfl (st := []) (st1 := [.int r_518]) rfl rfl (Nat.le_of_ble_eq_true rfl) ⟨by show ce ≤ 600000; omega, by show sl ≤ 7302250; omega⟩ dL_law_1628 ?_
                                                                                refine go_aload_n hC dL_law_1631 rfl 2 rfl ?_
                                                                                obtain ⟨r_519, hc, hf⟩ := bd_e1 hf
                                                                                refine go_callV hC (c_X12_trace h r_519 hc) (gi_l gL_law_X12_trace) rfl ⟨rfl, rfl⟩ 0 e_X12_trace ⟨Nat.le_of_ble_eq_true rfl, Nat.le_of_ble_eq_true rfl⟩ (b_43 _) rfl rfl (st := [.int r_518]) (st1 := [.int r_519, .int r_518]) rfl rfl (Nat.le_of_ble_eq_true rfl) ⟨by show ce ≤ 600000; omega, by show sl ≤ 7302250; omega⟩ dL_law_1632 ?_
                                                                                refine go_icmp_eq hC dL_law_1635 (tgt := 1676) (by decide) (fun c_521 => ?_) (fun c_521 => ?_)
                                                                                · replace hf := if_t c_521 hf
                                                                                  obtain ⟨x3_520, ex3_520, hf⟩ := lt_e hf
                                                                                  refine go_iinc hC dL_law_1676 3 rfl k1_7 ex3_520 (Nat.le_of_ble_eq_true rfl) rfl ?_
                                                                                  refine go_goto hC dL_law_1679 (tgt := 18) (by decide) ?_
                                                                                  obtain rfl := so_1 hf
                                                                                  refine go_sub [1, 2, 3, 0] (L' := [(0, .ref 1000000), (1, .ref 0), (2, .ref 43), (3, .int x3_520)]) rfl ?_
                                                                                  refine go_wid (k := ce + 2) (n := sl + 9) (by omega) (by omega) ?_
                                                                                  exact ih (ce + 2) (sl + 9) x3_520 h _ (lp_c hy) (hIs _ _ _ hI hf0) (by omega) (by omega)
                                                                                · replace hf := if_f c_521 hf
                                                                                  refine go_iconst hC dL_law_1638 k1_0 ?_
                                                                                  cases hf
                                                                              · replace hf := if_f c_38 hf
                                                                                by_cases c_39 : ((xs x3.toNatClampNeg) &&& 63) = 37
                                                                                · replace hf := if_t c_39 hf
                                                                                  refine go_tab hC dL_law_33 c_39 (off := 1607) (by decide) (by decide) (by decide) (tgt := 1640) (by decide) ?_
                                                                                  refine go_aload_n hC dL_law_1640 rfl 1 rfl ?_
                                                                                  obtain ⟨r_522, hc, hf⟩ := bd_e1 hf
                                                                                  refine go_callV hC (c_X11_fault h r_522 hc) (gi_l gL_law_X11_fault) rfl ⟨rfl, rfl⟩ 0 e_X11_fault ⟨Nat.le_of_ble_eq_true rfl, Nat.le_of_ble_eq_true rfl⟩ (b_0 _) rfl rfl (st := []) (st1 := [.int r_522]) rfl rfl (Nat.le_of_ble_eq_true rfl) ⟨by show ce ≤ 600000; omega, by show sl ≤ 7302250; omega⟩ dL_law_1641 ?_
                                                                                  refine go_aload_n hC dL_law_1644 rfl 2 rfl ?_
                                                                                  obtain ⟨r_523, hc, hf⟩ := bd_e1 hf
                                                                                  refine go_callV hC (c_X12_fault h r_523 hc) (gi_l gL_law_X12_fault) rfl ⟨rfl, rfl⟩ 0 e_X12_fault ⟨Nat.le_of_ble_eq_true rfl, Nat.le_of_ble_eq_true rfl⟩ (b_43 _) rfl rfl (st := [.int r_522]) (st1 := [.int r_523, .int r_522]) rfl rfl (Nat.le_of_ble_eq_true rfl) ⟨by show ce ≤ 600000; omega, by show sl ≤ 7302250; omega⟩ dL_law_1645 ?_
                                                                                  refine go_icmp_eq hC dL_law_1648 (tgt := 1676) (by decide) (fun c_525 => ?_) (fun c_525 => ?_)
                                                                                  · replace hf := if_t c_525 hf
                                                                                    obtain ⟨x3_524, ex3_524, hf⟩ := lt_e hf
                                                                                    refine go_iinc hC dL_law_1676 3 rfl k1_7 ex3_524 (Nat.le_of_ble_eq_true rfl) rfl ?_
                                                                                    refine go_goto hC dL_law_1679 (tgt := 18) (by decide) ?_
                                                                                    obtain rfl := so_1 hf
                                                                                    refine go_sub [1, 2, 3, 0] (L' := [(0, .ref 1000000), (1, .ref 0), (2, .ref 43), (3, .int x3_524)]) rfl ?_
                                                                                    refine go_wid (k := ce + 2) (n := sl + 9) (by omega) (by omega) ?_
                                                                                    exact ih (ce + 2) (sl + 9) x3_524 h _ (lp_c hy) (hIs _ _ _ hI hf0) (by omega) (by omega)
                                                                                  · replace hf := if_f c_525 hf
                                                                                    refine go_iconst hC dL_law_1651 k1_0 ?_
                                                                                    cases hf
                                                                                · replace hf := if_f c_39 hf
                                                                                  by_cases c_40 : ((xs x3.toNatClampNeg) &&& 63) = 38
                                                                                  · replace hf := if_t c_40 hf
                                                                                    refine go_tab hC dL_law_33 c_40 (off := 1620) (by decide) (by decide) (by decide) (tgt := 1653) (by decide) ?_
                                                                                    refine go_aload_n hC dL_law_1653 rfl 1 rfl ?_
                                                                                    refine go_aload_n hC dL_law_1654 rfl 0 rfl ?_
                                                                                    refine go_iload_n hC dL_law_1655 rfl 3 rfl ?_
                                                                                    refine go_iconst hC dL_law_1656 k1_1 ?_
                                                                                    refine go_iadd hC dL_law_1657 ?_
                                                                                    obtain ⟨g_526, hf⟩ := ga_e hf
                                                                                    refine go_sld hC hX g_526 dL_law_1658 ?_
                                                                                    obtain ⟨r_527, hc, hf⟩ := bd_e1 hf
                                                                                    refine go_callV hC (c_X11_many (xs (x3 + 1).toNatClampNeg) h r_527 hc) (gi_l gL_law_X11_many) rfl ⟨rfl, rfl⟩ 1 e_X11_many ⟨Nat.le_of_ble_eq_true rfl, Nat.le_of_ble_eq_true rfl⟩ (b_0 _) rfl rfl (st := []) (st1 := [.int r_527]) rfl rfl (Nat.le_of_ble_eq_true rfl) ⟨by show ce ≤ 600000; omega, by show sl ≤ 7302250; omega⟩ dL_law_1659 ?_
                                                                                    refine go_aload_n hC dL_law_1662 rfl 2 rfl ?_
                                                                                    refine go_aload_n hC dL_law_1663 rfl 0 rfl ?_
                                                                                    refine go_iload_n hC dL_law_1664 rfl 3 rfl ?_
                                                                                    refine go_iconst hC dL_law_1665 k1_1 ?_
                                                                                    refine go_iadd hC dL_law_1666 ?_
                                                                                    obtain ⟨g_528, hf⟩ := ga_e hf
                                                                                    refine go_sld hC hX g_528 dL_law_1667 ?_
                                                                                    obtain ⟨r_529, hc, hf⟩ := bd_e1 hf
                                                                                    refine go_callV hC (c_X12_many (xs (x3 + 1).toNatClampNeg) h r_529 hc) (gi_l gL_law_X12_many) rfl ⟨rfl, rfl⟩ 1 e_X12_many ⟨Nat.le_of_ble_eq_true rfl, Nat.le_of_ble_eq_true rfl⟩ (b_43 _) rfl rfl (st := [.int r_527]) (st1 := [.int r_529, .int r_527]) rfl rfl (Nat.le_of_ble_eq_true rfl) ⟨by show ce ≤ 600000; omega, by show sl ≤ 7302250; omega⟩ dL_law_1668 ?_
                                                                                    refine go_icmp_eq hC dL_law_1671 (tgt := 1676) (by decide) (fun c_531 => ?_) (fun c_531 => ?_)
                                                                                    · replace hf := if_t c_531 hf
                                                                                      obtain ⟨x3_530, ex3_530, hf⟩ := lt_e hf
                                                                                      refine go_iinc hC dL_law_1676 3 rfl k1_7 ex3_530 (Nat.le_of_ble_eq_true rfl) rfl ?_
                                                                                      refine go_goto hC dL_law_1679 (tgt := 18) (by decide) ?_
                                                                                      obtain rfl := so_1 hf
                                                                                      refine go_sub [1, 2, 3, 0] (L' := [(0, .ref 1000000), (1, .ref 0), (2, .ref 43), (3, .int x3_530)]) rfl ?_
                                                                                      refine go_wid (k := ce + 2) (n := sl + 9) (by omega) (by omega) ?_
                                                                                      exact ih (ce + 2) (sl + 9) x3_530 h _ (lp_c hy) (hIs _ _ _ hI hf0) (by omega) (by omega)
                                                                                    · replace hf := if_f c_531 hf
                                                                                      refine go_iconst hC dL_law_1674 k1_0 ?_
                                                                                      cases hf
                                                                                  · replace hf := if_f c_40 hf
                                                                                    refine go_tabOut hC dL_law_33 (tb_39 c_2 c_3 c_4 c_5 c_6 c_7 c_8 c_9 c_10 c_11 c_12 c_13 c_14 c_15 c_16 c_17 c_18 c_19 c_20 c_21 c_22 c_23 c_24 c_25 c_26 c_27 c_28 c_29 c_30 c_31 c_32 c_33 c_34 c_35 c_36 c_37 c_38 c_39 c_40) (tgt := 1676) (by decide) ?_
                                                                                    obtain ⟨x3_532, ex3_532, hf⟩ := lt_e hf
                                                                                    refine go_iinc hC dL_law_1676 3 rfl k1_7 ex3_532 (Nat.le_of_ble_eq_true rfl) rfl ?_
                                                                                    refine go_goto hC dL_law_1679 (tgt := 18) (by decide) ?_
                                                                                    obtain rfl := so_1 hf
                                                                                    refine go_sub [1, 2, 3, 0] (L' := [(0, .ref 1000000), (1, .ref 0), (2, .ref 43), (3, .int x3_532)]) rfl ?_
                                                                                    refine go_wid (k := ce + 2) (n := sl + 9) (by omega) (by omega) ?_
                                                                                    exact ih (ce + 2) (sl + 9) x3_532 h _ (lp_c hy) (hIs _ _ _ hI hf0) (by omega) (by omega)

abbrev kX0_init : bz_M := (yX0_init, cX0_init, 1, none)
theorem sc_X0_init : bz_SC kX0_init 0 := ⟨bz_mem 94 (by decide +kernel) (by decide +kernel), bz_mem 474 (by decide +kernel) (by decide +kernel), by decide +kernel, by decide⟩
theorem ml_X0_3 : Cond.methodLink RX0 3 Lib.objectInit ∈ bz_tbl := bz_mem 475 (by decide +kernel) (by decide +kernel)
theorem ak_i : Cond.arrayClass .int ∈ bz_tbl := bz_mem 143 (by decide +kernel) (by decide +kernel)
abbrev kX1_init : bz_M := (yX1_init, cX1_init, 4, none)
theorem sc_X1_init : bz_SC kX1_init 3 := ⟨bz_mem 95 (by decide +kernel) (by decide +kernel), bz_mem 487 (by decide +kernel) (by decide +kernel), by decide +kernel, by decide⟩
theorem ml_X1_3 : Cond.methodLink RX1 3 Lib.objectInit ∈ bz_tbl := bz_mem 488 (by decide +kernel) (by decide +kernel)
abbrev kX4_init : bz_M := (yX4_init, cX4_init, 2, none)
theorem sc_X4_init : bz_SC kX4_init 1 := ⟨bz_mem 88 (by decide +kernel) (by decide +kernel), bz_mem 148 (by decide +kernel) (by decide +kernel), by decide +kernel, by decide⟩
theorem ml_X4_3 : Cond.methodLink RX4 3 Lib.objectInit ∈ bz_tbl := bz_mem 149 (by decide +kernel) (by decide +kernel)
abbrev kX3_init : bz_M := (yX3_init, cX3_init, 2, none)
theorem sc_X3_init : bz_SC kX3_init 1 := ⟨bz_mem 90 (by decide +kernel) (by decide +kernel), bz_mem 250 (by decide +kernel) (by decide +kernel), by decide +kernel, by decide⟩
theorem ml_X3_3 : Cond.methodLink RX3 3 Lib.objectInit ∈ bz_tbl := bz_mem 251 (by decide +kernel) (by decide +kernel)
theorem cl_X3_9 : Cond.classLink RX3 9 RX4 ∈ bz_tbl := bz_mem 252 (by decide +kernel) (by decide +kernel)
theorem it_4 : Cond.instantiable RX4 2 ∈ bz_tbl := bz_mem 145 (by decide +kernel) (by decide +kernel)
theorem ii_4 : Cond.initialized RX4 ∈ bz_tbl := bz_mem 88 (by decide +kernel) (by decide +kernel)
theorem df_4 (G : bz_G) : ∀ j, j < 2 → defaultValue (bz_tyOf 4 j) = vp_V (List.map (bz_v G) [.inr none, .inl 0]) j := by
  intro j hj
  match j, hj with
  | 0, _ => rfl
  | 1, _ => rfl
  | n + 2, h => exact absurd h (by omega)
theorem ml_X3_11 : Cond.methodLink RX3 11 yX4_init ∈ bz_tbl := bz_mem 253 (by decide +kernel) (by decide +kernel)
theorem im_X4_init : Cond.instanceMethod yX4_init ∈ bz_tbl := bz_mem 147 (by decide +kernel) (by decide +kernel)
theorem fl_X3_20 : bz_FL RX3 20 3 0 := ⟨(RX3, TX3, 9), rfl, by decide, bz_mem 254 (by decide +kernel) (by decide +kernel)⟩
abbrev kX5_init : bz_M := (yX5_init, cX5_init, 1, none)
theorem sc_X5_init : bz_SC kX5_init 0 := ⟨bz_mem 92 (by decide +kernel) (by decide +kernel), bz_mem 405 (by decide +kernel) (by decide +kernel), by decide +kernel, by decide⟩
theorem ml_X5_3 : Cond.methodLink RX5 3 Lib.objectInit ∈ bz_tbl := bz_mem 406 (by decide +kernel) (by decide +kernel)
abbrev kX6_init : bz_M := (yX6_init, cX6_init, 1, none)
theorem sc_X6_init : bz_SC kX6_init 0 := ⟨bz_mem 91 (by decide +kernel) (by decide +kernel), bz_mem 370 (by decide +kernel) (by decide +kernel), by decide +kernel, by decide⟩
theorem ml_X6_3 : Cond.methodLink RX6 3 Lib.objectInit ∈ bz_tbl := bz_mem 371 (by decide +kernel) (by decide +kernel)
abbrev kX8_init : bz_M := (yX8_init, cX8_init, 2, none)
theorem sc_X8_init : bz_SC kX8_init 0 := ⟨bz_mem 86 (by decide +kernel) (by decide +kernel), bz_mem 123 (by decide +kernel) (by decide +kernel), by decide +kernel, by decide⟩
theorem ml_X8_3 : Cond.methodLink RX8 3 Lib.objectInit ∈ bz_tbl := bz_mem 124 (by decide +kernel) (by decide +kernel)
theorem ml_X8_24 : Cond.methodLink RX8 24 yJ7_fill_53178 ∈ bz_tbl := bz_mem 125 (by decide +kernel) (by decide +kernel)
abbrev kX9_init : bz_M := (yX9_init, cX9_init, 2, none)
theorem sc_X9_init : bz_SC kX9_init 1 := ⟨bz_mem 93 (by decide +kernel) (by decide +kernel), bz_mem 424 (by decide +kernel) (by decide +kernel), by decide +kernel, by decide⟩
theorem ml_X9_3 : Cond.methodLink RX9 3 Lib.objectInit ∈ bz_tbl := bz_mem 425 (by decide +kernel) (by decide +kernel)
abbrev kX10_init : bz_M := (yX10_init, cX10_init, 2, none)
theorem sc_X10_init : bz_SC kX10_init 0 := ⟨bz_mem 85 (by decide +kernel) (by decide +kernel), bz_mem 117 (by decide +kernel) (by decide +kernel), by decide +kernel, by decide⟩
theorem ml_X10_3 : Cond.methodLink RX10 3 Lib.objectInit ∈ bz_tbl := bz_mem 118 (by decide +kernel) (by decide +kernel)
theorem cl_X10_9 : Cond.classLink RX10 9 RX8 ∈ bz_tbl := bz_mem 119 (by decide +kernel) (by decide +kernel)
theorem it_8 : Cond.instantiable RX8 4 ∈ bz_tbl := bz_mem 120 (by decide +kernel) (by decide +kernel)
theorem ii_8 : Cond.initialized RX8 ∈ bz_tbl := bz_mem 86 (by decide +kernel) (by decide +kernel)
theorem df_8 (G : bz_G) : ∀ j, j < 4 → defaultValue (bz_tyOf 8 j) = vp_V (List.map (bz_v G) [.inr none, .inr none, .inr none, .inr none]) j := by
  intro j hj
  match j, hj with
  | 0, _ => rfl
  | 1, _ => rfl
  | 2, _ => rfl
  | 3, _ => rfl
  | n + 4, h => exact absurd h (by omega)
theorem ml_X10_11 : Cond.methodLink RX10 11 yX8_init ∈ bz_tbl := bz_mem 121 (by decide +kernel) (by decide +kernel)
theorem im_X8_init : Cond.instanceMethod yX8_init ∈ bz_tbl := bz_mem 122 (by decide +kernel) (by decide +kernel)
theorem cl_X10_18 : Cond.classLink RX10 18 RX4 ∈ bz_tbl := bz_mem 144 (by decide +kernel) (by decide +kernel)
theorem ml_X10_20 : Cond.methodLink RX10 20 yX4_init ∈ bz_tbl := bz_mem 146 (by decide +kernel) (by decide +kernel)
theorem cl_X10_27 : Cond.classLink RX10 27 RX2 ∈ bz_tbl := bz_mem 160 (by decide +kernel) (by decide +kernel)
theorem cl_X10_33 : Cond.classLink RX10 33 RX3 ∈ bz_tbl := bz_mem 162 (by decide +kernel) (by decide +kernel)
theorem cl_X10_39 : Cond.classLink RX10 39 RX7 ∈ bz_tbl := bz_mem 164 (by decide +kernel) (by decide +kernel)
theorem it_2 : Cond.instantiable RX2 15 ∈ bz_tbl := bz_mem 166 (by decide +kernel) (by decide +kernel)
theorem ii_2 : Cond.initialized RX2 ∈ bz_tbl := bz_mem 89 (by decide +kernel) (by decide +kernel)
theorem df_2 (G : bz_G) : ∀ j, j < 15 → defaultValue (bz_tyOf 2 j) = vp_V (List.map (bz_v G) [.inl 0, .inl 0, .inl 0, .inl 0, .inl 0, .inl 0, .inl 0, .inl 0, .inl 0, .inl 0, .inl 0, .inl 0, .inl 0, .inl 0, .inl 0]) j := by
  intro j hj
  match j, hj with
  | 0, _ => rfl
  | 1, _ => rfl
  | 2, _ => rfl
  | 3, _ => rfl
  | 4, _ => rfl
  | 5, _ => rfl
  | 6, _ => rfl
  | 7, _ => rfl
  | 8, _ => rfl
  | 9, _ => rfl
  | 10, _ => rfl
  | 11, _ => rfl
  | 12, _ => rfl
  | 13, _ => rfl
  | 14, _ => rfl
  | n + 15, h => exact absurd h (by omega)
theorem ml_X10_65 : (RX10, 65, yX2_init, RX11) ∈ bz_nwM := by decide +kernel
theorem im_X2_init : Cond.instanceMethod yX2_init ∈ bz_tbl := bz_mem 168 (by decide +kernel) (by decide +kernel)
theorem ml_X10_67 : Cond.methodLink RX10 67 yJ7_fill_53178 ∈ bz_tbl := bz_mem 297 (by decide +kernel) (by decide +kernel)
theorem it_3 : Cond.instantiable RX3 9 ∈ bz_tbl := bz_mem 247 (by decide +kernel) (by decide +kernel)
theorem ii_3 : Cond.initialized RX3 ∈ bz_tbl := bz_mem 90 (by decide +kernel) (by decide +kernel)
theorem df_3 (G : bz_G) : ∀ j, j < 9 → defaultValue (bz_tyOf 3 j) = vp_V (List.map (bz_v G) [.inl 0, .inl 0, .inl 0, .inl 0, .inl 0, .inl 0, .inl 0, .inl 0, .inr none]) j := by
  intro j hj
  match j, hj with
  | 0, _ => rfl
  | 1, _ => rfl
  | 2, _ => rfl
  | 3, _ => rfl
  | 4, _ => rfl
  | 5, _ => rfl
  | 6, _ => rfl
  | 7, _ => rfl
  | 8, _ => rfl
  | n + 9, h => exact absurd h (by omega)
theorem ml_X10_66 : Cond.methodLink RX10 66 yX3_init ∈ bz_tbl := bz_mem 248 (by decide +kernel) (by decide +kernel)
theorem im_X3_init : Cond.instanceMethod yX3_init ∈ bz_tbl := bz_mem 249 (by decide +kernel) (by decide +kernel)
abbrev kX11_init : bz_M := (yX11_init, cX11_init, 2, none)
theorem sc_X11_init : bz_SC kX11_init 0 := ⟨bz_mem 84 (by decide +kernel) (by decide +kernel), bz_mem 109 (by decide +kernel) (by decide +kernel), by decide +kernel, by decide⟩
theorem ml_X11_3 : Cond.methodLink RX11 3 Lib.objectInit ∈ bz_tbl := bz_mem 110 (by decide +kernel) (by decide +kernel)
theorem cl_X11_9 : Cond.classLink RX11 9 RX10 ∈ bz_tbl := bz_mem 113 (by decide +kernel) (by decide +kernel)
theorem it_10 : Cond.instantiable RX10 16 ∈ bz_tbl := bz_mem 114 (by decide +kernel) (by decide +kernel)
theorem ii_10 : Cond.initialized RX10 ∈ bz_tbl := bz_mem 85 (by decide +kernel) (by decide +kernel)
theorem df_10 (G : bz_G) : ∀ j, j < 16 → defaultValue (bz_tyOf 10 j) = vp_V (List.map (bz_v G) [.inr none, .inr none, .inr none, .inr none, .inr none, .inr none, .inr none, .inr none, .inr none, .inl 0, .inl 0, .inl 0, .inl 0, .inl 0, .inl 0, .inl 0]) j := by
  intro j hj
  match j, hj with
  | 0, _ => rfl
  | 1, _ => rfl
  | 2, _ => rfl
  | 3, _ => rfl
  | 4, _ => rfl
  | 5, _ => rfl
  | 6, _ => rfl
  | 7, _ => rfl
  | 8, _ => rfl
  | 9, _ => rfl
  | 10, _ => rfl
  | 11, _ => rfl
  | 12, _ => rfl
  | 13, _ => rfl
  | 14, _ => rfl
  | 15, _ => rfl
  | n + 16, h => exact absurd h (by omega)
theorem ml_X11_11 : Cond.methodLink RX11 11 yX10_init ∈ bz_tbl := bz_mem 115 (by decide +kernel) (by decide +kernel)
theorem im_X10_init : Cond.instanceMethod yX10_init ∈ bz_tbl := bz_mem 116 (by decide +kernel) (by decide +kernel)
theorem cl_X11_23 : Cond.classLink RX11 23 RX6 ∈ bz_tbl := bz_mem 366 (by decide +kernel) (by decide +kernel)
theorem it_6 : Cond.instantiable RX6 8 ∈ bz_tbl := bz_mem 367 (by decide +kernel) (by decide +kernel)
theorem ii_6 : Cond.initialized RX6 ∈ bz_tbl := bz_mem 91 (by decide +kernel) (by decide +kernel)
theorem df_6 (G : bz_G) : ∀ j, j < 8 → defaultValue (bz_tyOf 6 j) = vp_V (List.map (bz_v G) [.inr none, .inl 0, .inr none, .inl 0, .inl 0, .inl 0, .inl 0, .inl 0]) j := by
  intro j hj
  match j, hj with
  | 0, _ => rfl
  | 1, _ => rfl
  | 2, _ => rfl
  | 3, _ => rfl
  | 4, _ => rfl
  | 5, _ => rfl
  | 6, _ => rfl
  | 7, _ => rfl
  | n + 8, h => exact absurd h (by omega)
theorem ml_X11_25 : (RX11, 25, yX6_init, RX11) ∈ bz_nwM := by decide +kernel
theorem im_X6_init : Cond.instanceMethod yX6_init ∈ bz_tbl := bz_mem 369 (by decide +kernel) (by decide +kernel)
theorem cl_X11_30 : Cond.classLink RX11 30 RX5 ∈ bz_tbl := bz_mem 400 (by decide +kernel) (by decide +kernel)
theorem cl_X11_41 : Cond.classLink RX11 41 RX9 ∈ bz_tbl := bz_mem 420 (by decide +kernel) (by decide +kernel)
theorem it_9 : Cond.instantiable RX9 11 ∈ bz_tbl := bz_mem 421 (by decide +kernel) (by decide +kernel)
theorem ii_9 : Cond.initialized RX9 ∈ bz_tbl := bz_mem 93 (by decide +kernel) (by decide +kernel)
theorem df_9 (G : bz_G) : ∀ j, j < 11 → defaultValue (bz_tyOf 9 j) = vp_V (List.map (bz_v G) [.inr none, .inr none, .inr none, .inl 0, .inl 0, .inl 0, .inl 0, .inl 0, .inl 0, .inl 0, .inl 0]) j := by
  intro j hj
  match j, hj with
  | 0, _ => rfl
  | 1, _ => rfl
  | 2, _ => rfl
  | 3, _ => rfl
  | 4, _ => rfl
  | 5, _ => rfl
  | 6, _ => rfl
  | 7, _ => rfl
  | 8, _ => rfl
  | 9, _ => rfl
  | 10, _ => rfl
  | n + 11, h => exact absurd h (by omega)
theorem ml_X11_47 : Cond.methodLink RX11 47 yX9_init ∈ bz_tbl := bz_mem 422 (by decide +kernel) (by decide +kernel)
theorem im_X9_init : Cond.instanceMethod yX9_init ∈ bz_tbl := bz_mem 423 (by decide +kernel) (by decide +kernel)
theorem cl_X11_54 : Cond.classLink RX11 54 RX0 ∈ bz_tbl := bz_mem 470 (by decide +kernel) (by decide +kernel)
theorem it_0 : Cond.instantiable RX0 2 ∈ bz_tbl := bz_mem 471 (by decide +kernel) (by decide +kernel)
theorem ii_0 : Cond.initialized RX0 ∈ bz_tbl := bz_mem 94 (by decide +kernel) (by decide +kernel)
theorem df_0 (G : bz_G) : ∀ j, j < 2 → defaultValue (bz_tyOf 0 j) = vp_V (List.map (bz_v G) [.inr none, .inr none]) j := by
  intro j hj
  match j, hj with
  | 0, _ => rfl
  | 1, _ => rfl
  | n + 2, h => exact absurd h (by omega)
theorem ml_X11_56 : (RX11, 56, yX0_init, RX11) ∈ bz_nwM := by decide +kernel
theorem im_X0_init : Cond.instanceMethod yX0_init ∈ bz_tbl := bz_mem 473 (by decide +kernel) (by decide +kernel)
theorem cl_X11_61 : Cond.classLink RX11 61 RX1 ∈ bz_tbl := bz_mem 483 (by decide +kernel) (by decide +kernel)
theorem it_1 : Cond.instantiable RX1 10 ∈ bz_tbl := bz_mem 484 (by decide +kernel) (by decide +kernel)
theorem ii_1 : Cond.initialized RX1 ∈ bz_tbl := bz_mem 95 (by decide +kernel) (by decide +kernel)
theorem df_1 (G : bz_G) : ∀ j, j < 10 → defaultValue (bz_tyOf 1 j) = vp_V (List.map (bz_v G) [.inr none, .inr none, .inr none, .inr none, .inr none, .inr none, .inr none, .inl 0, .inl 0, .inl 0]) j := by
  intro j hj
  match j, hj with
  | 0, _ => rfl
  | 1, _ => rfl
  | 2, _ => rfl
  | 3, _ => rfl
  | 4, _ => rfl
  | 5, _ => rfl
  | 6, _ => rfl
  | 7, _ => rfl
  | 8, _ => rfl
  | 9, _ => rfl
  | n + 10, h => exact absurd h (by omega)
theorem ml_X11_63 : Cond.methodLink RX11 63 yX1_init ∈ bz_tbl := bz_mem 485 (by decide +kernel) (by decide +kernel)
theorem im_X1_init : Cond.instanceMethod yX1_init ∈ bz_tbl := bz_mem 486 (by decide +kernel) (by decide +kernel)
theorem it_5 : Cond.instantiable RX5 3 ∈ bz_tbl := bz_mem 402 (by decide +kernel) (by decide +kernel)
theorem ii_5 : Cond.initialized RX5 ∈ bz_tbl := bz_mem 92 (by decide +kernel) (by decide +kernel)
theorem df_5 (G : bz_G) : ∀ j, j < 3 → defaultValue (bz_tyOf 5 j) = vp_V (List.map (bz_v G) [.inr none, .inl 0, .inl 0]) j := by
  intro j hj
  match j, hj with
  | 0, _ => rfl
  | 1, _ => rfl
  | 2, _ => rfl
  | n + 3, h => exact absurd h (by omega)
theorem ml_X11_36 : (RX11, 36, yX5_init, RX11) ∈ bz_nwM := by decide +kernel
theorem im_X5_init : Cond.instanceMethod yX5_init ∈ bz_tbl := bz_mem 404 (by decide +kernel) (by decide +kernel)
abbrev kX12_init : bz_M := (yX12_init, cX12_init, 2, none)
theorem sc_X12_init : bz_SC kX12_init 0 := ⟨bz_mem 96 (by decide +kernel) (by decide +kernel), bz_mem 1254 (by decide +kernel) (by decide +kernel), by decide +kernel, by decide⟩
theorem ml_X12_1 : Cond.methodLink RX12 1 Lib.objectInit ∈ bz_tbl := bz_mem 1255 (by decide +kernel) (by decide +kernel)
theorem cs_164 : (Int16.ofInt 164).toInt32 = 164 := by decide
theorem cs_128 : (Int16.ofInt 128).toInt32 = 128 := by decide
theorem cb_84 : (Int8.ofInt 84).toInt32 = 84 := by decide
theorem cs_240 : (Int16.ofInt 240).toInt32 = 240 := by decide
abbrev kJ7_copyOf_59c91 : bz_M := (yJ7_copyOf_59c91, cJ7_copyOf_59c91, 3, (some (.array .int)))
theorem sc_J7_copyOf_59c91 : bz_SC kJ7_copyOf_59c91 2 := ⟨bz_mem 87 (by decide +kernel) (by decide +kernel), bz_mem 973 (by decide +kernel) (by decide +kernel), by decide +kernel, by decide⟩
theorem ml_J7_304 : Cond.methodLink RJ7 304 Lib.Math.min.name ∈ bz_tbl := bz_mem 981 (by decide +kernel) (by decide +kernel)
theorem ml_J7_150 : Cond.methodLink RJ7 150 arraycopyName ∈ bz_tbl := bz_mem 982 (by decide +kernel) (by decide +kernel)
theorem ml_J7_316 : Cond.methodLink RJ7 316 ⟨"[I", "clone", "()Ljava/lang/Object;"⟩ ∈ bz_tbl := bz_mem 974 (by decide +kernel) (by decide +kernel)
theorem cn_2 : Cond.sameMethod "[I" "java/lang/Object" "clone" "()Ljava/lang/Object;" ∈ bz_tbl := bz_mem 975 (by decide +kernel) (by decide +kernel)
theorem cn_3 : Cond.native ⟨"java/lang/Object", "clone", "()Ljava/lang/Object;"⟩ ∈ bz_tbl := bz_mem 976 (by decide +kernel) (by decide +kernel)
theorem cn_4 : Cond.instanceMethod ⟨"java/lang/Object", "clone", "()Ljava/lang/Object;"⟩ ∈ bz_tbl := bz_mem 977 (by decide +kernel) (by decide +kernel)
theorem cn_5 : Cond.selects "[I" ⟨"[I", "clone", "()Ljava/lang/Object;"⟩ ⟨"java/lang/Object", "clone", "()Ljava/lang/Object;"⟩ ∈ bz_tbl := bz_mem 978 (by decide +kernel) (by decide +kernel)
theorem cl_J7_317 : Cond.classLink RJ7 317 "[I" ∈ bz_tbl := bz_mem 980 (by decide +kernel) (by decide +kernel)
abbrev kX11_text : bz_M := (yX11_text, cX11_text, 2, (some .int))
theorem sc_X11_text : bz_SC kX11_text 0 := ⟨bz_mem 84 (by decide +kernel) (by decide +kernel), bz_mem 850 (by decide +kernel) (by decide +kernel), by decide +kernel, by decide⟩
theorem ml_X11_250 : Cond.methodLink RX11 250 yX6_readAll ∈ bz_tbl := bz_mem 851 (by decide +kernel) (by decide +kernel)
theorem im_X6_readAll : Cond.instanceMethod yX6_readAll ∈ bz_tbl := bz_mem 852 (by decide +kernel) (by decide +kernel)
theorem se_X6_readAll : Cond.selects RX6 yX6_readAll yX6_readAll ∈ bz_tbl := bz_mem 853 (by decide +kernel) (by decide +kernel)
theorem cl_X11_254 : Cond.classLink RX11 254 RX7 ∈ bz_tbl := bz_mem 969 (by decide +kernel) (by decide +kernel)
theorem it_7 : Cond.instantiable RX7 1 ∈ bz_tbl := bz_mem 970 (by decide +kernel) (by decide +kernel)
theorem ii_7 : Cond.initialized RX7 ∈ bz_tbl := bz_mem 104 (by decide +kernel) (by decide +kernel)
theorem df_7 (G : bz_G) : ∀ j, j < 1 → defaultValue (bz_tyOf 7 j) = vp_V (List.map (bz_v G) [.inr none]) j := by
  intro j hj
  match j, hj with
  | 0, _ => rfl
  | n + 1, h => exact absurd h (by omega)
theorem fl_X11_256 : bz_FL RX11 256 6 2 := ⟨(RX6, TX6, 8), rfl, by decide, bz_mem 376 (by decide +kernel) (by decide +kernel)⟩
theorem fl_X11_259 : bz_FL RX11 259 6 3 := ⟨(RX6, TX6, 8), rfl, by decide, bz_mem 378 (by decide +kernel) (by decide +kernel)⟩
theorem ml_X11_262 : Cond.methodLink RX11 262 yJ7_copyOf_59c91 ∈ bz_tbl := bz_mem 971 (by decide +kernel) (by decide +kernel)
theorem ss_J7_copyOf_59c91 : Cond.static yJ7_copyOf_59c91 ∈ bz_tbl := bz_mem 972 (by decide +kernel) (by decide +kernel)
theorem ml_X11_268 : Cond.methodLink RX11 268 yX7_init ∈ bz_tbl := bz_mem 983 (by decide +kernel) (by decide +kernel)
theorem im_X7_init : Cond.instanceMethod yX7_init ∈ bz_tbl := bz_mem 984 (by decide +kernel) (by decide +kernel)
theorem ml_X11_271 : Cond.methodLink RX11 271 yX10_addText ∈ bz_tbl := bz_mem 993 (by decide +kernel) (by decide +kernel)
theorem im_X10_addText : Cond.instanceMethod yX10_addText ∈ bz_tbl := bz_mem 994 (by decide +kernel) (by decide +kernel)
theorem se_X10_addText : Cond.selects RX10 yX10_addText yX10_addText ∈ bz_tbl := bz_mem 995 (by decide +kernel) (by decide +kernel)
theorem ml_X6_56 : Cond.methodLink RX6 56 yX6_takeNumber ∈ bz_tbl := bz_mem 859 (by decide +kernel) (by decide +kernel)
theorem im_X6_takeNumber : Cond.instanceMethod yX6_takeNumber ∈ bz_tbl := bz_mem 861 (by decide +kernel) (by decide +kernel)
theorem se_X6_takeNumber : Cond.selects RX6 yX6_takeNumber yX6_takeNumber ∈ bz_tbl := bz_mem 12 (by decide +kernel) (by decide +kernel)
abbrev kJ0_indexOf_0f7a4 : bz_M := (yJ0_indexOf_0f7a4, cJ0_indexOf_0f7a4, 2, (some .int))
theorem sc_J0_indexOf_0f7a4 : bz_SC kJ0_indexOf_0f7a4 1 := ⟨bz_mem 99 (by decide +kernel) (by decide +kernel), bz_mem 867 (by decide +kernel) (by decide +kernel), by decide +kernel, by decide⟩
theorem ml_X6_61 : Cond.methodLink RX6 61 yJ0_indexOf_0f7a4 ∈ bz_tbl := bz_mem 864 (by decide +kernel) (by decide +kernel)
theorem im_J0_indexOf_0f7a4 : Cond.instanceMethod yJ0_indexOf_0f7a4 ∈ bz_tbl := bz_mem 865 (by decide +kernel) (by decide +kernel)
theorem se_J0_indexOf_0f7a4 : Cond.selects RJ0 yJ0_indexOf_0f7a4 yJ0_indexOf_0f7a4 ∈ bz_tbl := bz_mem 866 (by decide +kernel) (by decide +kernel)
theorem ml_X6_67 : Cond.methodLink RX6 67 yX6_isSign ∈ bz_tbl := bz_mem 946 (by decide +kernel) (by decide +kernel)
theorem ss_X6_isSign : Cond.static yX6_isSign ∈ bz_tbl := bz_mem 947 (by decide +kernel) (by decide +kernel)
def w_X0_init_0 (G : bz_G) (l : Launch) (d : Nat) (F : Option bz_V → bz_H → Prop) (a0 : Nat) (h : bz_H) : Prop := bz_an h 7 7 (fun a_1 h_2 => bz_wR h_2 a0 0 0 (some a_1) (fun h_3 => bz_an h_3 80 80 (fun a_4 h_5 => bz_wR h_5 a0 0 1 (some a_4) (fun h_6 => F none h_6))))
set_option maxRecDepth 20000 in
set_option maxHeartbeats 4000000 in
theorem g_X0_init_0 {G : bz_G} {κ : bz_K} {l : Launch} {d : Nat} {F : Option bz_V → bz_H → Prop} {bc bs : Nat} (hl : κ.2.1 = l) (a0 : Nat) (h : bz_H) (hP0 : w_X0_init_0 G l d F a0 h) : bz_J G κ kX0_init (d + 1) F (bc + 2) (bs + 87) 0 [some (.inr (some a0))] [] h := by
  subst hl
  unfold w_X0_init_0 at hP0
  refine bz_aload_n (pc := 0) dX0_init_0 rfl rfl ?_
  refine bz_objInit (pc := 1) dX0_init_1 ml_X0_3 oi_i oi_c (Nat.succ_pos d) (Nat.le_of_ble_eq_true rfl) ?_
  refine bz_aload_n (pc := 4) dX0_init_4 rfl rfl ?_
  refine bz_bipush (pc := 5) dX0_init_5 cb_7 ?_
  refine bz_rw_an (N := 7) (bc := (bc + 1)) (bs := (bs + 80)) (pc := 7) dX0_init_7 ak_i (by decide) hP0 (fun a_1 h_2 hP1 => ?_)
  clear hP0
  refine bz_rw_wRF (pc := 9) dX0_init_9 fl_X0_9 (fun q h9 => by cases h9; exact ⟨rfl, rfl⟩) rfl (by first | exact Or.inl ⟨_, rfl⟩ | exact Or.inr ⟨_, rfl⟩) hP1 (fun h_3 hP2 => ?_)
  clear hP1
  refine bz_aload_n (pc := 12) dX0_init_12 rfl rfl ?_
  refine bz_bipush (pc := 13) dX0_init_13 cb_80 ?_
  refine bz_rw_an (N := 80) (bc := bc) (bs := bs) (pc := 15) dX0_init_15 ak_i (by decide) hP2 (fun a_4 h_5 hP3 => ?_)
  clear hP2
  refine bz_rw_wRF (pc := 17) dX0_init_17 fl_X0_15 (fun q h9 => by cases h9; exact ⟨rfl, rfl⟩) rfl (by first | exact Or.inl ⟨_, rfl⟩ | exact Or.inr ⟨_, rfl⟩) hP3 (fun h_6 hP4 => ?_)
  clear hP3
  exact bz_retV (pc := 20) dX0_init_20 rfl hP4
theorem m_X0_init {G : bz_G} {l : Launch} {d mc ms : Nat} {F : Option bz_V → bz_H → Prop} (a0 : Nat) (h : bz_H) (hP : w_X0_init_0 G l d F a0 h) : bz_Call G l (d + 1) kX0_init [.inr (some a0)] h (mc + 2) (ms + 87) F :=
  bz_body (by decide) (Nat.le_of_ble_eq_true rfl) (fun κ hl => g_X0_init_0 hl a0 h hP)
def w_X1_init_0 (G : bz_G) (l : Launch) (d : Nat) (F : Option bz_V → bz_H → Prop) (a0 : Nat) (r1 : Option Nat) (r2 : Option Nat) (r3 : Option Nat) (h : bz_H) : Prop := bz_an h 12 12 (fun a_1 h_2 => bz_wR h_2 a0 1 3 (some a_1) (fun h_3 => bz_an h_3 12 12 (fun a_4 h_5 => bz_wR h_5 a0 1 4 (some a_4) (fun h_6 => bz_an h_6 12 12 (fun a_7 h_8 => bz_wR h_8 a0 1 5 (some a_7) (fun h_9 => bz_an h_9 24 24 (fun a_10 h_11 => bz_wR h_11 a0 1 6 (some a_10) (fun h_12 => bz_wR h_12 a0 1 0 r1 (fun h_13 => bz_wR h_13 a0 1 1 r2 (fun h_14 => bz_wR h_14 a0 1 2 r3 (fun h_15 => F none h_15)))))))))))
set_option maxRecDepth 20000 in
set_option maxHeartbeats 4000000 in
theorem g_X1_init_0 {G : bz_G} {κ : bz_K} {l : Launch} {d : Nat} {F : Option bz_V → bz_H → Prop} {bc bs : Nat} (hl : κ.2.1 = l) (a0 : Nat) (r1 : Option Nat) (r2 : Option Nat) (r3 : Option Nat) (h : bz_H) (hP0 : w_X1_init_0 G l d F a0 r1 r2 r3 h) : bz_J G κ kX1_init (d + 1) F (bc + 4) (bs + 60) 0 [some (.inr (some a0)), some (.inr r1), some (.inr r2), some (.inr r3)] [] h := by
  subst hl
  unfold w_X1_init_0 at hP0
  refine bz_aload_n (pc := 0) dX1_init_0 rfl rfl ?_
  refine bz_objInit (pc := 1) dX1_init_1 ml_X1_3 oi_i oi_c (Nat.succ_pos d) (Nat.le_of_ble_eq_true rfl) ?_
  refine bz_aload_n (pc := 4) dX1_init_4 rfl rfl ?_
  refine bz_bipush (pc := 5) dX1_init_5 cb_12 ?_
  refine bz_rw_an (N := 12) (bc := (bc + 3)) (bs := (bs + 48)) (pc := 7) dX1_init_7 ak_i (by decide) hP0 (fun a_1 h_2 hP1 => ?_)
  clear hP0
  refine bz_rw_wRF (pc := 9) dX1_init_9 fl_X1_9 (fun q h9 => by cases h9; exact ⟨rfl, rfl⟩) rfl (by first | exact Or.inl ⟨_, rfl⟩ | exact Or.inr ⟨_, rfl⟩) hP1 (fun h_3 hP2 => ?_)
  clear hP1
  refine bz_aload_n (pc := 12) dX1_init_12 rfl rfl ?_
  refine bz_bipush (pc := 13) dX1_init_13 cb_12 ?_
  refine bz_rw_an (N := 12) (bc := (bc + 2)) (bs := (bs + 36)) (pc := 15) dX1_init_15 ak_i (by decide) hP2 (fun a_4 h_5 hP3 => ?_)
  clear hP2
  refine bz_rw_wRF (pc := 17) dX1_init_17 fl_X1_15 (fun q h9 => by cases h9; exact ⟨rfl, rfl⟩) rfl (by first | exact Or.inl ⟨_, rfl⟩ | exact Or.inr ⟨_, rfl⟩) hP3 (fun h_6 hP4 => ?_)
  clear hP3
  refine bz_aload_n (pc := 20) dX1_init_20 rfl rfl ?_
  refine bz_bipush (pc := 21) dX1_init_21 cb_12 ?_
  refine bz_rw_an (N := 12) (bc := (bc + 1)) (bs := (bs + 24)) (pc := 23) dX1_init_23 ak_i (by decide) hP4 (fun a_7 h_8 hP5 => ?_)
  clear hP4
  refine bz_rw_wRF (pc := 25) dX1_init_25 fl_X1_18 (fun q h9 => by cases h9; exact ⟨rfl, rfl⟩) rfl (by first | exact Or.inl ⟨_, rfl⟩ | exact Or.inr ⟨_, rfl⟩) hP5 (fun h_9 hP6 => ?_)
  clear hP5
  refine bz_aload_n (pc := 28) dX1_init_28 rfl rfl ?_
  refine bz_bipush (pc := 29) dX1_init_29 cb_24 ?_
  refine bz_rw_an (N := 24) (bc := bc) (bs := bs) (pc := 31) dX1_init_31 ak_i (by decide) hP6 (fun a_10 h_11 hP7 => ?_)
  clear hP6
  refine bz_rw_wRF (pc := 33) dX1_init_33 fl_X1_21 (fun q h9 => by cases h9; exact ⟨rfl, rfl⟩) rfl (by first | exact Or.inl ⟨_, rfl⟩ | exact Or.inr ⟨_, rfl⟩) hP7 (fun h_12 hP8 => ?_)
  clear hP7
  refine bz_aload_n (pc := 36) dX1_init_36 rfl rfl ?_
  refine bz_aload_n (pc := 37) dX1_init_37 rfl rfl ?_
  refine bz_rw_wRF (pc := 38) dX1_init_38 fl_X1_24 (fun q h9 => by cases h9; exact ⟨rfl, rfl⟩) rfl (by first | exact Or.inl ⟨_, rfl⟩ | exact Or.inr ⟨_, rfl⟩) hP8 (fun h_13 hP9 => ?_)
  clear hP8
  refine bz_aload_n (pc := 41) dX1_init_41 rfl rfl ?_
  refine bz_aload_n (pc := 42) dX1_init_42 rfl rfl ?_
  refine bz_rw_wRF (pc := 43) dX1_init_43 fl_X1_28 (fun q h9 => by cases h9; exact ⟨rfl, rfl⟩) rfl (by first | exact Or.inl ⟨_, rfl⟩ | exact Or.inr ⟨_, rfl⟩) hP9 (fun h_14 hP10 => ?_)
  clear hP9
  refine bz_aload_n (pc := 46) dX1_init_46 rfl rfl ?_
  refine bz_aload_n (pc := 47) dX1_init_47 rfl rfl ?_
  refine bz_rw_wRF (pc := 48) dX1_init_48 fl_X1_32 (fun q h9 => by cases h9; exact ⟨rfl, rfl⟩) rfl (by first | exact Or.inl ⟨_, rfl⟩ | exact Or.inr ⟨_, rfl⟩) hP10 (fun h_15 hP11 => ?_)
  clear hP10
  exact bz_retV (pc := 51) dX1_init_51 rfl hP11
theorem m_X1_init {G : bz_G} {l : Launch} {d mc ms : Nat} {F : Option bz_V → bz_H → Prop} (a0 : Nat) (r1 : Option Nat) (r2 : Option Nat) (r3 : Option Nat) (h : bz_H) (hP : w_X1_init_0 G l d F a0 r1 r2 r3 h) : bz_Call G l (d + 1) kX1_init [.inr (some a0), .inr r1, .inr r2, .inr r3] h (mc + 4) (ms + 60) F :=
  bz_body (by decide) (Nat.le_of_ble_eq_true rfl) (fun κ hl => g_X1_init_0 hl a0 r1 r2 r3 h hP)
def w_X4_init_0 (G : bz_G) (l : Launch) (d : Nat) (F : Option bz_V → bz_H → Prop) (a0 : Nat) (x1 : Int32) (h : bz_H) : Prop := bz_an h (3 * x1) 72 (fun a_1 h_2 => bz_wR h_2 a0 4 0 (some a_1) (fun h_3 => F none h_3))
set_option maxRecDepth 20000 in
set_option maxHeartbeats 4000000 in
theorem g_X4_init_0 {G : bz_G} {κ : bz_K} {l : Launch} {d : Nat} {F : Option bz_V → bz_H → Prop} {bc bs : Nat} (hl : κ.2.1 = l) (a0 : Nat) (x1 : Int32) (h : bz_H) (hP0 : w_X4_init_0 G l d F a0 x1 h) : bz_J G κ kX4_init (d + 1) F (bc + 1) (bs + 72) 0 [some (.inr (some a0)), some (.inl x1)] [] h := by
  subst hl
  unfold w_X4_init_0 at hP0
  refine bz_aload_n (pc := 0) dX4_init_0 rfl rfl ?_
  refine bz_objInit (pc := 1) dX4_init_1 ml_X4_3 oi_i oi_c (Nat.succ_pos d) (Nat.le_of_ble_eq_true rfl) ?_
  refine bz_aload_n (pc := 4) dX4_init_4 rfl rfl ?_
  refine bz_iconst (pc := 5) dX4_init_5 ci_3 ?_
  refine bz_iload_n (pc := 6) dX4_init_6 rfl rfl ?_
  refine bz_imul (pc := 7) dX4_init_7 ?_
  refine bz_rw_an (N := 72) (bc := bc) (bs := bs) (pc := 8) dX4_init_8 ak_i (by decide) hP0 (fun a_1 h_2 hP1 => ?_)
  clear hP0
  refine bz_rw_wRF (pc := 10) dX4_init_10 fl_X4_9 (fun q h9 => by cases h9; exact ⟨rfl, rfl⟩) rfl (by first | exact Or.inl ⟨_, rfl⟩ | exact Or.inr ⟨_, rfl⟩) hP1 (fun h_3 hP2 => ?_)
  clear hP1
  exact bz_retV (pc := 13) dX4_init_13 rfl hP2
theorem m_X4_init {G : bz_G} {l : Launch} {d mc ms : Nat} {F : Option bz_V → bz_H → Prop} (a0 : Nat) (x1 : Int32) (h : bz_H) (hP : w_X4_init_0 G l d F a0 x1 h) : bz_Call G l (d + 1) kX4_init [.inr (some a0), .inl x1] h (mc + 1) (ms + 72) F :=
  bz_body (by decide) (Nat.le_of_ble_eq_true rfl) (fun κ hl => g_X4_init_0 hl a0 x1 h hP)
def w_X3_init_0 (G : bz_G) (l : Launch) (d : Nat) (F : Option bz_V → bz_H → Prop) (a0 : Nat) (x1 : Int32) (h : bz_H) : Prop := bz_al h (bz_co 4 [.inr none, .inl 0]) (fun a_1 h_2 => bz_cV G l d kX4_init [.inr (some a_1), .inl 4] h_2 1 72 (fun h_4 => bz_wR h_4 a0 3 8 (some a_1) (fun h_5 => bz_wI h_5 a0 3 0 x1 (fun h_6 => F none h_6))))
set_option maxRecDepth 20000 in
set_option maxHeartbeats 4000000 in
theorem g_X3_init_0 {G : bz_G} {κ : bz_K} {l : Launch} {d : Nat} {F : Option bz_V → bz_H → Prop} {bc bs : Nat} (hl : κ.2.1 = l) (a0 : Nat) (x1 : Int32) (h : bz_H) (hP0 : w_X3_init_0 G l d F a0 x1 h) : bz_J G κ kX3_init (d + 1) F (bc + 2) (bs + 74) 0 [some (.inr (some a0)), some (.inl x1)] [] h := by
  subst hl
  unfold w_X3_init_0 at hP0
  refine bz_aload_n (pc := 0) dX3_init_0 rfl rfl ?_
  refine bz_objInit (pc := 1) dX3_init_1 ml_X3_3 oi_i oi_c (Nat.succ_pos d) (Nat.le_of_ble_eq_true rfl) ?_
  refine bz_aload_n (pc := 4) dX3_init_4 rfl rfl ?_
  refine bz_rw_new (ci := 4) (q := (RX4, TX4, 2)) (n := 2) (bc := (bc + 1)) (bs := (bs + 72)) (pc := 5) dX3_init_5 rfl cl_X3_9 it_4 ii_4 rfl (df_4 G) hP0 (fun a_1 h_2 hP1 => ?_)
  clear hP0
  refine bz_dup (pc := 8) dX3_init_8 ?_
  refine bz_iconst (pc := 9) dX3_init_9 ci_4 ?_
  refine bz_kVI (as := [.inl 4]) (st := [.inr (some a_1), .inr (some a0)]) (n := 1) (mc := 1) (ms := 72) (bc := bc) (bs := bs) (yc := kX4_init) (b := a_1) (pc := 10) dX3_init_10 sc_X4_init rfl ml_X3_11 im_X4_init rfl rfl (Nat.le_of_ble_eq_true rfl) hP1 (fun h_4 hP2 => ?_)
  clear hP1
  refine bz_rw_wRF (pc := 13) dX3_init_13 fl_X3_14 (fun q h9 => by cases h9; exact ⟨rfl, rfl⟩) rfl (by first | exact Or.inl ⟨_, rfl⟩ | exact Or.inr ⟨_, rfl⟩) hP2 (fun h_5 hP3 => ?_)
  clear hP2
  refine bz_aload_n (pc := 16) dX3_init_16 rfl rfl ?_
  refine bz_iload_n (pc := 17) dX3_init_17 rfl rfl ?_
  refine bz_rw_wIF (pc := 18) dX3_init_18 fl_X3_20 (fun q h9 => by cases h9; exact ⟨rfl, rfl⟩) rfl rfl hP3 (fun h_6 hP4 => ?_)
  clear hP3
  exact bz_retV (pc := 21) dX3_init_21 rfl hP4
theorem m_X3_init {G : bz_G} {l : Launch} {d mc ms : Nat} {F : Option bz_V → bz_H → Prop} (a0 : Nat) (x1 : Int32) (h : bz_H) (hP : w_X3_init_0 G l d F a0 x1 h) : bz_Call G l (d + 1) kX3_init [.inr (some a0), .inl x1] h (mc + 2) (ms + 74) F :=
  bz_body (by decide) (Nat.le_of_ble_eq_true rfl) (fun κ hl => g_X3_init_0 hl a0 x1 h hP)
def w_X5_init_0 (G : bz_G) (l : Launch) (d : Nat) (F : Option bz_V → bz_H → Prop) (a0 : Nat) (h : bz_H) : Prop := bz_an h 60 60 (fun a_1 h_2 => bz_wR h_2 a0 5 0 (some a_1) (fun h_3 => F none h_3))
set_option maxRecDepth 20000 in
set_option maxHeartbeats 4000000 in
theorem g_X5_init_0 {G : bz_G} {κ : bz_K} {l : Launch} {d : Nat} {F : Option bz_V → bz_H → Prop} {bc bs : Nat} (hl : κ.2.1 = l) (a0 : Nat) (h : bz_H) (hP0 : w_X5_init_0 G l d F a0 h) : bz_J G κ kX5_init (d + 1) F (bc + 1) (bs + 60) 0 [some (.inr (some a0))] [] h := by
  subst hl
  unfold w_X5_init_0 at hP0
  refine bz_aload_n (pc := 0) dX5_init_0 rfl rfl ?_
  refine bz_objInit (pc := 1) dX5_init_1 ml_X5_3 oi_i oi_c (Nat.succ_pos d) (Nat.le_of_ble_eq_true rfl) ?_
  refine bz_aload_n (pc := 4) dX5_init_4 rfl rfl ?_
  refine bz_bipush (pc := 5) dX5_init_5 cb_60 ?_
  refine bz_rw_an (N := 60) (bc := bc) (bs := bs) (pc := 7) dX5_init_7 ak_i (by decide) hP0 (fun a_1 h_2 hP1 => ?_)
  clear hP0
  refine bz_rw_wRF (pc := 9) dX5_init_9 fl_X5_9 (fun q h9 => by cases h9; exact ⟨rfl, rfl⟩) rfl (by first | exact Or.inl ⟨_, rfl⟩ | exact Or.inr ⟨_, rfl⟩) hP1 (fun h_3 hP2 => ?_)
  clear hP1
  exact bz_retV (pc := 12) dX5_init_12 rfl hP2
theorem m_X5_init {G : bz_G} {l : Launch} {d mc ms : Nat} {F : Option bz_V → bz_H → Prop} (a0 : Nat) (h : bz_H) (hP : w_X5_init_0 G l d F a0 h) : bz_Call G l (d + 1) kX5_init [.inr (some a0)] h (mc + 1) (ms + 60) F :=
  bz_body (by decide) (Nat.le_of_ble_eq_true rfl) (fun κ hl => g_X5_init_0 hl a0 h hP)
def w_X6_init_0 (G : bz_G) (l : Launch) (d : Nat) (F : Option bz_V → bz_H → Prop) (a0 : Nat) (h : bz_H) : Prop := bz_an h 80 80 (fun a_1 h_2 => bz_wR h_2 a0 6 0 (some a_1) (fun h_3 => bz_an h_3 80 80 (fun a_4 h_5 => bz_wR h_5 a0 6 2 (some a_4) (fun h_6 => F none h_6))))
set_option maxRecDepth 20000 in
set_option maxHeartbeats 4000000 in
theorem g_X6_init_0 {G : bz_G} {κ : bz_K} {l : Launch} {d : Nat} {F : Option bz_V → bz_H → Prop} {bc bs : Nat} (hl : κ.2.1 = l) (a0 : Nat) (h : bz_H) (hP0 : w_X6_init_0 G l d F a0 h) : bz_J G κ kX6_init (d + 1) F (bc + 2) (bs + 160) 0 [some (.inr (some a0))] [] h := by
  subst hl
  unfold w_X6_init_0 at hP0
  refine bz_aload_n (pc := 0) dX6_init_0 rfl rfl ?_
  refine bz_objInit (pc := 1) dX6_init_1 ml_X6_3 oi_i oi_c (Nat.succ_pos d) (Nat.le_of_ble_eq_true rfl) ?_
  refine bz_aload_n (pc := 4) dX6_init_4 rfl rfl ?_
  refine bz_bipush (pc := 5) dX6_init_5 cb_80 ?_
  refine bz_rw_an (N := 80) (bc := (bc + 1)) (bs := (bs + 80)) (pc := 7) dX6_init_7 ak_i (by decide) hP0 (fun a_1 h_2 hP1 => ?_)
  clear hP0
  refine bz_rw_wRF (pc := 9) dX6_init_9 fl_X6_9 (fun q h9 => by cases h9; exact ⟨rfl, rfl⟩) rfl (by first | exact Or.inl ⟨_, rfl⟩ | exact Or.inr ⟨_, rfl⟩) hP1 (fun h_3 hP2 => ?_)
  clear hP1
  refine bz_aload_n (pc := 12) dX6_init_12 rfl rfl ?_
  refine bz_bipush (pc := 13) dX6_init_13 cb_80 ?_
  refine bz_rw_an (N := 80) (bc := bc) (bs := bs) (pc := 15) dX6_init_15 ak_i (by decide) hP2 (fun a_4 h_5 hP3 => ?_)
  clear hP2
  refine bz_rw_wRF (pc := 17) dX6_init_17 fl_X6_15 (fun q h9 => by cases h9; exact ⟨rfl, rfl⟩) rfl (by first | exact Or.inl ⟨_, rfl⟩ | exact Or.inr ⟨_, rfl⟩) hP3 (fun h_6 hP4 => ?_)
  clear hP3
  exact bz_retV (pc := 20) dX6_init_20 rfl hP4
theorem m_X6_init {G : bz_G} {l : Launch} {d mc ms : Nat} {F : Option bz_V → bz_H → Prop} (a0 : Nat) (h : bz_H) (hP : w_X6_init_0 G l d F a0 h) : bz_Call G l (d + 1) kX6_init [.inr (some a0)] h (mc + 2) (ms + 160) F :=
  bz_body (by decide) (Nat.le_of_ble_eq_true rfl) (fun κ hl => g_X6_init_0 hl a0 h hP)
def w_X8_init_0 (G : bz_G) (κ : bz_K) (l : Launch) (d : Nat) (F : Option bz_V → bz_H → Prop) (bc bs : Nat) (a0 : Nat) (h : bz_H) : Prop := bz_an h 16 16 (fun a_1 h_2 => bz_wR h_2 a0 8 0 (some a_1) (fun h_3 => bz_an h_3 16 16 (fun a_4 h_5 => bz_wR h_5 a0 8 1 (some a_4) (fun h_6 => bz_an h_6 256 256 (fun a_7 h_8 => bz_wR h_8 a0 8 2 (some a_7) (fun h_9 => bz_an h_9 256 256 (fun a_10 h_11 => bz_wR h_11 a0 8 3 (some a_10) (fun h_12 => bz_rR h_12 a0 8 3 (fun r_13 => bz_cV G l d kJ7_fill_53178 [.inr r_13, .inl (-1)] h_12 0 0 (fun h_15 => bz_J G κ kX8_init (d + 1) F bc bs 48 [some (.inr (some a0)), some (.inl 0)] [] h_15))))))))))
set_option maxRecDepth 20000 in
set_option maxHeartbeats 4000000 in
theorem g_X8_init_0 {G : bz_G} {κ : bz_K} {l : Launch} {d : Nat} {F : Option bz_V → bz_H → Prop} {bc bs : Nat} (hl : κ.2.1 = l) (a0 : Nat) (h : bz_H) (hP0 : w_X8_init_0 G κ l d F bc bs a0 h) : bz_J G κ kX8_init (d + 1) F (bc + 4) (bs + 544) 0 [some (.inr (some a0)), none] [] h := by
  subst hl
  unfold w_X8_init_0 at hP0
  refine bz_aload_n (pc := 0) dX8_init_0 rfl rfl ?_
  refine bz_objInit (pc := 1) dX8_init_1 ml_X8_3 oi_i oi_c (Nat.succ_pos d) (Nat.le_of_ble_eq_true rfl) ?_
  refine bz_aload_n (pc := 4) dX8_init_4 rfl rfl ?_
  refine bz_bipush (pc := 5) dX8_init_5 cb_16 ?_
  refine bz_rw_an (N := 16) (bc := (bc + 3)) (bs := (bs + 528)) (pc := 7) dX8_init_7 ak_i (by decide) hP0 (fun a_1 h_2 hP1 => ?_)
  clear hP0
  refine bz_rw_wRF (pc := 9) dX8_init_9 fl_X8_9 (fun q h9 => by cases h9; exact ⟨rfl, rfl⟩) rfl (by first | exact Or.inl ⟨_, rfl⟩ | exact Or.inr ⟨_, rfl⟩) hP1 (fun h_3 hP2 => ?_)
  clear hP1
  refine bz_aload_n (pc := 12) dX8_init_12 rfl rfl ?_
  refine bz_bipush (pc := 13) dX8_init_13 cb_16 ?_
  refine bz_rw_an (N := 16) (bc := (bc + 2)) (bs := (bs + 512)) (pc := 15) dX8_init_15 ak_i (by decide) hP2 (fun a_4 h_5 hP3 => ?_)
  clear hP2
  refine bz_rw_wRF (pc := 17) dX8_init_17 fl_X8_15 (fun q h9 => by cases h9; exact ⟨rfl, rfl⟩) rfl (by first | exact Or.inl ⟨_, rfl⟩ | exact Or.inr ⟨_, rfl⟩) hP3 (fun h_6 hP4 => ?_)
  clear hP3
  refine bz_aload_n (pc := 20) dX8_init_20 rfl rfl ?_
  refine bz_sipush (pc := 21) dX8_init_21 cs_256 ?_
  refine bz_rw_an (N := 256) (bc := (bc + 1)) (bs := (bs + 256)) (pc := 24) dX8_init_24 ak_i (by decide) hP4 (fun a_7 h_8 hP5 => ?_)
  clear hP4
  refine bz_rw_wRF (pc := 26) dX8_init_26 fl_X8_18 (fun q h9 => by cases h9; exact ⟨rfl, rfl⟩) rfl (by first | exact Or.inl ⟨_, rfl⟩ | exact Or.inr ⟨_, rfl⟩) hP5 (fun h_9 hP6 => ?_)
  clear hP5
  refine bz_aload_n (pc := 29) dX8_init_29 rfl rfl ?_
  refine bz_sipush (pc := 30) dX8_init_30 cs_256 ?_
  refine bz_rw_an (N := 256) (bc := bc) (bs := bs) (pc := 33) dX8_init_33 ak_i (by decide) hP6 (fun a_10 h_11 hP7 => ?_)
  clear hP6
  refine bz_rw_wRF (pc := 35) dX8_init_35 fl_X8_21 (fun q h9 => by cases h9; exact ⟨rfl, rfl⟩) rfl (by first | exact Or.inl ⟨_, rfl⟩ | exact Or.inr ⟨_, rfl⟩) hP7 (fun h_12 hP8 => ?_)
  clear hP7
  refine bz_aload_n (pc := 38) dX8_init_38 rfl rfl ?_
  refine bz_rw_rR (pc := 39) dX8_init_39 fl_X8_21 hP8 (fun r_13 hP9 => ?_)
  clear hP8
  refine bz_iconst (pc := 42) dX8_init_42 ci_m1 ?_
  refine bz_kVS (as := [.inr r_13, .inl (-1)]) (st := []) (n := 2) (mc := 0) (ms := 0) (bc := bc) (bs := bs) (yc := kJ7_fill_53178) (pc := 43) dX8_init_43 sc_J7_fill_53178 ml_X8_24 ss_J7_fill_53178 rfl (Nat.le_of_ble_eq_true rfl) hP9 (fun h_15 hP10 => ?_)
  clear hP9
  refine bz_iconst (pc := 46) dX8_init_46 ci_0 ?_
  refine bz_s_istore_n (pc := 47) dX8_init_47 rfl (Nat.le_of_ble_eq_true rfl) [some (.inr (some a0)), some (.inl 0)] rfl ?_
  exact hP10
def w_X8_init_48 (G : bz_G) (κ : bz_K) (l : Launch) (d : Nat) (F : Option bz_V → bz_H → Prop) (bc bs : Nat) (a0 : Nat) (x1 : Int32) (h : bz_H) : Prop := (16 ≤ x1 → F none h) ∧ (¬ (16 ≤ x1) → bz_rR h a0 8 3 (fun r_16 => bz_nn r_16 (fun a_17 => bz_wA h a_17 ((x1 * 16) + x1) 0 (fun h_18 => bz_J G κ kX8_init (d + 1) F bc bs 48 [some (.inr (some a0)), some (.inl (x1 + 1))] [] h_18))))
set_option maxRecDepth 20000 in
set_option maxHeartbeats 4000000 in
theorem g_X8_init_48 {G : bz_G} {κ : bz_K} {l : Launch} {d : Nat} {F : Option bz_V → bz_H → Prop} {bc bs : Nat} (hl : κ.2.1 = l) (a0 : Nat) (x1 : Int32) (h : bz_H) (hP0 : w_X8_init_48 G κ l d F bc bs a0 x1 h) : bz_J G κ kX8_init (d + 1) F bc bs 48 [some (.inr (some a0)), some (.inl x1)] [] h := by
  subst hl
  unfold w_X8_init_48 at hP0
  refine bz_iload_n (pc := 48) dX8_init_48 rfl rfl ?_
  refine bz_bipush (pc := 49) dX8_init_49 cb_16 ?_
  refine bz_icmp_ge (tgt := 72) (pc := 51) dX8_init_51 rfl (fun c => ?_) (fun c => ?_)
  · have hP1 := hP0.1 c
    clear hP0
    exact bz_retV (pc := 72) dX8_init_72 rfl hP1
  · have hP2 := hP0.2 c
    clear hP0
    refine bz_aload_n (pc := 54) dX8_init_54 rfl rfl ?_
    refine bz_rw_rR (pc := 55) dX8_init_55 fl_X8_21 hP2 (fun r_16 hP3 => ?_)
    clear hP2
    refine bz_iload_n (pc := 58) dX8_init_58 rfl rfl ?_
    refine bz_bipush (pc := 59) dX8_init_59 cb_16 ?_
    refine bz_imul (pc := 61) dX8_init_61 ?_
    refine bz_iload_n (pc := 62) dX8_init_62 rfl rfl ?_
    refine bz_iadd (pc := 63) dX8_init_63 ?_
    refine bz_iconst (pc := 64) dX8_init_64 ci_0 ?_
    obtain ⟨a_17, rfl, hP4⟩ := hP3
    refine bz_rw_wA (pc := 65) dX8_init_65 hP4 (fun h_18 hP5 => ?_)
    clear hP4
    refine bz_s_iinc (pc := 66) dX8_init_66 (Nat.le_of_ble_eq_true rfl) rfl rfl [some (.inr (some a0)), some (.inl (x1 + 1))] rfl ?_
    refine bz_goto (tgt := 48) (pc := 69) dX8_init_69 rfl ?_
    exact hP5
theorem m_X8_init {G : bz_G} {l : Launch} {d mc ms : Nat} {F : Option bz_V → bz_H → Prop} (a0 : Nat) (h : bz_H) (hP : ∀ κ : bz_K, κ.2.1 = l → w_X8_init_0 G κ l d F mc ms a0 h) : bz_Call G l (d + 1) kX8_init [.inr (some a0)] h (mc + 4) (ms + 544) F :=
  bz_body (by decide) (Nat.le_of_ble_eq_true rfl) (fun κ hl => g_X8_init_0 hl a0 h (hP κ hl))
def w_X9_init_0 (G : bz_G) (l : Launch) (d : Nat) (F : Option bz_V → bz_H → Prop) (a0 : Nat) (r1 : Option Nat) (h : bz_H) : Prop := bz_an h 4 4 (fun a_1 h_2 => bz_wR h_2 a0 9 1 (some a_1) (fun h_3 => bz_an h_3 4 4 (fun a_4 h_5 => bz_wR h_5 a0 9 2 (some a_4) (fun h_6 => bz_wR h_6 a0 9 0 r1 (fun h_7 => F none h_7)))))
set_option maxRecDepth 20000 in
set_option maxHeartbeats 4000000 in
theorem g_X9_init_0 {G : bz_G} {κ : bz_K} {l : Launch} {d : Nat} {F : Option bz_V → bz_H → Prop} {bc bs : Nat} (hl : κ.2.1 = l) (a0 : Nat) (r1 : Option Nat) (h : bz_H) (hP0 : w_X9_init_0 G l d F a0 r1 h) : bz_J G κ kX9_init (d + 1) F (bc + 2) (bs + 8) 0 [some (.inr (some a0)), some (.inr r1)] [] h := by
  subst hl
  unfold w_X9_init_0 at hP0
  refine bz_aload_n (pc := 0) dX9_init_0 rfl rfl ?_
  refine bz_objInit (pc := 1) dX9_init_1 ml_X9_3 oi_i oi_c (Nat.succ_pos d) (Nat.le_of_ble_eq_true rfl) ?_
  refine bz_aload_n (pc := 4) dX9_init_4 rfl rfl ?_
  refine bz_iconst (pc := 5) dX9_init_5 ci_4 ?_
  refine bz_rw_an (N := 4) (bc := (bc + 1)) (bs := (bs + 4)) (pc := 6) dX9_init_6 ak_i (by decide) hP0 (fun a_1 h_2 hP1 => ?_)
  clear hP0
  refine bz_rw_wRF (pc := 8) dX9_init_8 fl_X9_9 (fun q h9 => by cases h9; exact ⟨rfl, rfl⟩) rfl (by first | exact Or.inl ⟨_, rfl⟩ | exact Or.inr ⟨_, rfl⟩) hP1 (fun h_3 hP2 => ?_)
  clear hP1
  refine bz_aload_n (pc := 11) dX9_init_11 rfl rfl ?_
  refine bz_iconst (pc := 12) dX9_init_12 ci_4 ?_
  refine bz_rw_an (N := 4) (bc := bc) (bs := bs) (pc := 13) dX9_init_13 ak_i (by decide) hP2 (fun a_4 h_5 hP3 => ?_)
  clear hP2
  refine bz_rw_wRF (pc := 15) dX9_init_15 fl_X9_15 (fun q h9 => by cases h9; exact ⟨rfl, rfl⟩) rfl (by first | exact Or.inl ⟨_, rfl⟩ | exact Or.inr ⟨_, rfl⟩) hP3 (fun h_6 hP4 => ?_)
  clear hP3
  refine bz_aload_n (pc := 18) dX9_init_18 rfl rfl ?_
  refine bz_aload_n (pc := 19) dX9_init_19 rfl rfl ?_
  refine bz_rw_wRF (pc := 20) dX9_init_20 fl_X9_18 (fun q h9 => by cases h9; exact ⟨rfl, rfl⟩) rfl (by first | exact Or.inl ⟨_, rfl⟩ | exact Or.inr ⟨_, rfl⟩) hP4 (fun h_7 hP5 => ?_)
  clear hP4
  exact bz_retV (pc := 23) dX9_init_23 rfl hP5
theorem m_X9_init {G : bz_G} {l : Launch} {d mc ms : Nat} {F : Option bz_V → bz_H → Prop} (a0 : Nat) (r1 : Option Nat) (h : bz_H) (hP : w_X9_init_0 G l d F a0 r1 h) : bz_Call G l (d + 1) kX9_init [.inr (some a0), .inr r1] h (mc + 2) (ms + 8) F :=
  bz_body (by decide) (Nat.le_of_ble_eq_true rfl) (fun κ hl => g_X9_init_0 hl a0 r1 h hP)
def w_X10_init_0 (G : bz_G) (κ : bz_K) (l : Launch) (d : Nat) (F : Option bz_V → bz_H → Prop) (bc bs : Nat) (a0 : Nat) (h : bz_H) : Prop := bz_al h (bz_co 8 [.inr none, .inr none, .inr none, .inr none]) (fun a_1 h_2 => bz_cV G l d kX8_init [.inr (some a_1)] h_2 4 544 (fun h_4 => bz_wR h_4 a0 10 0 (some a_1) (fun h_5 => bz_al h_5 (bz_co 4 [.inr none, .inl 0]) (fun a_6 h_7 => bz_cV G l d kX4_init [.inr (some a_6), .inl 6] h_7 1 72 (fun h_9 => bz_wR h_9 a0 10 1 (some a_6) (fun h_10 => bz_aq h_10 1 24 24 (fun a_11 h_12 => bz_wR h_12 a0 10 2 (some a_11) (fun h_13 => bz_aq h_13 2 12 12 (fun a_14 h_15 => bz_wR h_15 a0 10 3 (some a_14) (fun h_16 => bz_aq h_16 3 8 8 (fun a_17 h_18 => bz_wR h_18 a0 10 4 (some a_17) (fun h_19 => bz_al h_19 (bz_co 4 [.inr none, .inl 0]) (fun a_20 h_21 => bz_cV G l d kX4_init [.inr (some a_20), .inl 24] h_21 1 72 (fun h_23 => bz_wR h_23 a0 10 5 (some a_20) (fun h_24 => bz_al h_24 (bz_co 4 [.inr none, .inl 0]) (fun a_25 h_26 => bz_cV G l d kX4_init [.inr (some a_25), .inl 6] h_26 1 72 (fun h_28 => bz_wR h_28 a0 10 6 (some a_25) (fun h_29 => bz_al h_29 (bz_co 4 [.inr none, .inl 0]) (fun a_30 h_31 => bz_cV G l d kX4_init [.inr (some a_30), .inl 20] h_31 1 72 (fun h_33 => bz_wR h_33 a0 10 7 (some a_30) (fun h_34 => bz_an h_34 10 10 (fun a_35 h_36 => bz_wR h_36 a0 10 8 (some a_35) (fun h_37 => bz_wI h_37 a0 10 13 (-1) (fun h_38 => bz_wI h_38 a0 10 14 (-1) (fun h_39 => bz_J G κ kX10_init (d + 1) F bc bs 114 [some (.inr (some a0)), some (.inl 0)] [] h_39)))))))))))))))))))))))))
set_option maxRecDepth 20000 in
set_option maxHeartbeats 4000000 in
theorem g_X10_init_0 {G : bz_G} {κ : bz_K} {l : Launch} {d : Nat} {F : Option bz_V → bz_H → Prop} {bc bs : Nat} (hl : κ.2.1 = l) (a0 : Nat) (h : bz_H) (hP0 : w_X10_init_0 G κ l d F bc bs a0 h) : bz_J G κ kX10_init (d + 1) F (bc + 17) (bs + 898) 0 [some (.inr (some a0)), none] [] h := by
  subst hl
  unfold w_X10_init_0 at hP0
  refine bz_aload_n (pc := 0) dX10_init_0 rfl rfl ?_
  refine bz_objInit (pc := 1) dX10_init_1 ml_X10_3 oi_i oi_c (Nat.succ_pos d) (Nat.le_of_ble_eq_true rfl) ?_
  refine bz_aload_n (pc := 4) dX10_init_4 rfl rfl ?_
  refine bz_rw_new (ci := 8) (q := (RX8, TX8, 4)) (n := 4) (bc := (bc + 16)) (bs := (bs + 894)) (pc := 5) dX10_init_5 rfl cl_X10_9 it_8 ii_8 rfl (df_8 G) hP0 (fun a_1 h_2 hP1 => ?_)
  clear hP0
  refine bz_dup (pc := 8) dX10_init_8 ?_
  refine bz_kVI (as := []) (st := [.inr (some a_1), .inr (some a0)]) (n := 0) (mc := 4) (ms := 544) (bc := (bc + 12)) (bs := (bs + 350)) (yc := kX8_init) (b := a_1) (pc := 9) dX10_init_9 sc_X8_init rfl ml_X10_11 im_X8_init rfl rfl (Nat.le_of_ble_eq_true rfl) hP1 (fun h_4 hP2 => ?_)
  clear hP1
  refine bz_rw_wRF (pc := 12) dX10_init_12 fl_X10_12 (fun q h9 => by cases h9; exact ⟨rfl, rfl⟩) rfl (by first | exact Or.inl ⟨_, rfl⟩ | exact Or.inr ⟨_, rfl⟩) hP2 (fun h_5 hP3 => ?_)
  clear hP2
  refine bz_aload_n (pc := 15) dX10_init_15 rfl rfl ?_
  refine bz_rw_new (ci := 4) (q := (RX4, TX4, 2)) (n := 2) (bc := (bc + 11)) (bs := (bs + 348)) (pc := 16) dX10_init_16 rfl cl_X10_18 it_4 ii_4 rfl (df_4 G) hP3 (fun a_6 h_7 hP4 => ?_)
  clear hP3
  refine bz_dup (pc := 19) dX10_init_19 ?_
  refine bz_bipush (pc := 20) dX10_init_20 cb_6 ?_
  refine bz_kVI (as := [.inl 6]) (st := [.inr (some a_6), .inr (some a0)]) (n := 1) (mc := 1) (ms := 72) (bc := (bc + 10)) (bs := (bs + 276)) (yc := kX4_init) (b := a_6) (pc := 22) dX10_init_22 sc_X4_init rfl ml_X10_20 im_X4_init rfl rfl (Nat.le_of_ble_eq_true rfl) hP4 (fun h_9 hP5 => ?_)
  clear hP4
  refine bz_rw_wRF (pc := 25) dX10_init_25 fl_X10_23 (fun q h9 => by cases h9; exact ⟨rfl, rfl⟩) rfl (by first | exact Or.inl ⟨_, rfl⟩ | exact Or.inr ⟨_, rfl⟩) hP5 (fun h_10 hP6 => ?_)
  clear hP5
  refine bz_aload_n (pc := 28) dX10_init_28 rfl rfl ?_
  refine bz_bipush (pc := 29) dX10_init_29 cb_24 ?_
  refine bz_rw_aq (N := 24) (t := 1) (C := RX2) (bc := (bc + 9)) (bs := (bs + 252)) (pc := 31) dX10_init_31 cl_X10_27 (by decide) rfl (by decide) hP6 (fun a_11 h_12 hP7 => ?_)
  clear hP6
  refine bz_rw_wRF (pc := 34) dX10_init_34 fl_X10_29 (fun q h9 => by cases h9; exact ⟨rfl, rfl⟩) rfl (by first | exact Or.inl ⟨_, rfl⟩ | exact Or.inr ⟨_, rfl⟩) hP7 (fun h_13 hP8 => ?_)
  clear hP7
  refine bz_aload_n (pc := 37) dX10_init_37 rfl rfl ?_
  refine bz_bipush (pc := 38) dX10_init_38 cb_12 ?_
  refine bz_rw_aq (N := 12) (t := 2) (C := RX3) (bc := (bc + 8)) (bs := (bs + 240)) (pc := 40) dX10_init_40 cl_X10_33 (by decide) rfl (by decide) hP8 (fun a_14 h_15 hP9 => ?_)
  clear hP8
  refine bz_rw_wRF (pc := 43) dX10_init_43 fl_X10_35 (fun q h9 => by cases h9; exact ⟨rfl, rfl⟩) rfl (by first | exact Or.inl ⟨_, rfl⟩ | exact Or.inr ⟨_, rfl⟩) hP9 (fun h_16 hP10 => ?_)
  clear hP9
  refine bz_aload_n (pc := 46) dX10_init_46 rfl rfl ?_
  refine bz_bipush (pc := 47) dX10_init_47 cb_8 ?_
  refine bz_rw_aq (N := 8) (t := 3) (C := RX7) (bc := (bc + 7)) (bs := (bs + 232)) (pc := 49) dX10_init_49 cl_X10_39 (by decide) rfl (by decide) hP10 (fun a_17 h_18 hP11 => ?_)
  clear hP10
  refine bz_rw_wRF (pc := 52) dX10_init_52 fl_X10_41 (fun q h9 => by cases h9; exact ⟨rfl, rfl⟩) rfl (by first | exact Or.inl ⟨_, rfl⟩ | exact Or.inr ⟨_, rfl⟩) hP11 (fun h_19 hP12 => ?_)
  clear hP11
  refine bz_aload_n (pc := 55) dX10_init_55 rfl rfl ?_
  refine bz_rw_new (ci := 4) (q := (RX4, TX4, 2)) (n := 2) (bc := (bc + 6)) (bs := (bs + 230)) (pc := 56) dX10_init_56 rfl cl_X10_18 it_4 ii_4 rfl (df_4 G) hP12 (fun a_20 h_21 hP13 => ?_)
  clear hP12
  refine bz_dup (pc := 59) dX10_init_59 ?_
  refine bz_bipush (pc := 60) dX10_init_60 cb_24 ?_
  refine bz_kVI (as := [.inl 24]) (st := [.inr (some a_20), .inr (some a0)]) (n := 1) (mc := 1) (ms := 72) (bc := (bc + 5)) (bs := (bs + 158)) (yc := kX4_init) (b := a_20) (pc := 62) dX10_init_62 sc_X4_init rfl ml_X10_20 im_X4_init rfl rfl (Nat.le_of_ble_eq_true rfl) hP13 (fun h_23 hP14 => ?_)
  clear hP13
  refine bz_rw_wRF (pc := 65) dX10_init_65 fl_X10_45 (fun q h9 => by cases h9; exact ⟨rfl, rfl⟩) rfl (by first | exact Or.inl ⟨_, rfl⟩ | exact Or.inr ⟨_, rfl⟩) hP14 (fun h_24 hP15 => ?_)
  clear hP14
  refine bz_aload_n (pc := 68) dX10_init_68 rfl rfl ?_
  refine bz_rw_new (ci := 4) (q := (RX4, TX4, 2)) (n := 2) (bc := (bc + 4)) (bs := (bs + 156)) (pc := 69) dX10_init_69 rfl cl_X10_18 it_4 ii_4 rfl (df_4 G) hP15 (fun a_25 h_26 hP16 => ?_)
  clear hP15
  refine bz_dup (pc := 72) dX10_init_72 ?_
  refine bz_bipush (pc := 73) dX10_init_73 cb_6 ?_
  refine bz_kVI (as := [.inl 6]) (st := [.inr (some a_25), .inr (some a0)]) (n := 1) (mc := 1) (ms := 72) (bc := (bc + 3)) (bs := (bs + 84)) (yc := kX4_init) (b := a_25) (pc := 75) dX10_init_75 sc_X4_init rfl ml_X10_20 im_X4_init rfl rfl (Nat.le_of_ble_eq_true rfl) hP16 (fun h_28 hP17 => ?_)
  clear hP16
  refine bz_rw_wRF (pc := 78) dX10_init_78 fl_X10_48 (fun q h9 => by cases h9; exact ⟨rfl, rfl⟩) rfl (by first | exact Or.inl ⟨_, rfl⟩ | exact Or.inr ⟨_, rfl⟩) hP17 (fun h_29 hP18 => ?_)
  clear hP17
  refine bz_aload_n (pc := 81) dX10_init_81 rfl rfl ?_
  refine bz_rw_new (ci := 4) (q := (RX4, TX4, 2)) (n := 2) (bc := (bc + 2)) (bs := (bs + 82)) (pc := 82) dX10_init_82 rfl cl_X10_18 it_4 ii_4 rfl (df_4 G) hP18 (fun a_30 h_31 hP19 => ?_)
  clear hP18
  refine bz_dup (pc := 85) dX10_init_85 ?_
  refine bz_bipush (pc := 86) dX10_init_86 cb_20 ?_
  refine bz_kVI (as := [.inl 20]) (st := [.inr (some a_30), .inr (some a0)]) (n := 1) (mc := 1) (ms := 72) (bc := (bc + 1)) (bs := (bs + 10)) (yc := kX4_init) (b := a_30) (pc := 88) dX10_init_88 sc_X4_init rfl ml_X10_20 im_X4_init rfl rfl (Nat.le_of_ble_eq_true rfl) hP19 (fun h_33 hP20 => ?_)
  clear hP19
  refine bz_rw_wRF (pc := 91) dX10_init_91 fl_X10_51 (fun q h9 => by cases h9; exact ⟨rfl, rfl⟩) rfl (by first | exact Or.inl ⟨_, rfl⟩ | exact Or.inr ⟨_, rfl⟩) hP20 (fun h_34 hP21 => ?_)
  clear hP20
  refine bz_aload_n (pc := 94) dX10_init_94 rfl rfl ?_
  refine bz_bipush (pc := 95) dX10_init_95 cb_10 ?_
  refine bz_rw_an (N := 10) (bc := bc) (bs := bs) (pc := 97) dX10_init_97 ak_i (by decide) hP21 (fun a_35 h_36 hP22 => ?_)
  clear hP21
  refine bz_rw_wRF (pc := 99) dX10_init_99 fl_X10_54 (fun q h9 => by cases h9; exact ⟨rfl, rfl⟩) rfl (by first | exact Or.inl ⟨_, rfl⟩ | exact Or.inr ⟨_, rfl⟩) hP22 (fun h_37 hP23 => ?_)
  clear hP22
  refine bz_aload_n (pc := 102) dX10_init_102 rfl rfl ?_
  refine bz_iconst (pc := 103) dX10_init_103 ci_m1 ?_
  refine bz_rw_wI (pc := 104) dX10_init_104 fl_X10_58 (fun q h9 => by cases h9; rfl) rfl hP23 (fun h_38 hP24 => ?_)
  clear hP23
  refine bz_aload_n (pc := 107) dX10_init_107 rfl rfl ?_
  refine bz_iconst (pc := 108) dX10_init_108 ci_m1 ?_
  refine bz_rw_wI (pc := 109) dX10_init_109 fl_X10_62 (fun q h9 => by cases h9; rfl) rfl hP24 (fun h_39 hP25 => ?_)
  clear hP24
  refine bz_iconst (pc := 112) dX10_init_112 ci_0 ?_
  refine bz_s_istore_n (pc := 113) dX10_init_113 rfl (Nat.le_of_ble_eq_true rfl) [some (.inr (some a0)), some (.inl 0)] rfl ?_
  exact hP25
def w_X10_init_114 (G : bz_G) (κ : bz_K) (l : Launch) (d : Nat) (F : Option bz_V → bz_H → Prop) (bc bs : Nat) (a0 : Nat) (x1 : Int32) (h : bz_H) : Prop := (24 ≤ x1 → bz_J G κ kX10_init (d + 1) F bc bs 141 [some (.inr (some a0)), some (.inl 0)] [] h) ∧ (¬ (24 ≤ x1) → bz_rR h a0 10 2 (fun r_40 => bz_al h (bz_co 2 [.inl 0, .inl 0, .inl 0, .inl 0, .inl 0, .inl 0, .inl 0, .inl 0, .inl 0, .inl 0, .inl 0, .inl 0, .inl 0, .inl 0, .inl 0]) (fun a_41 h_42 => bz_cV G l d kX2_init [.inr (some a_41)] h_42 0 0 (fun h_44 => bz_nn r_40 (fun a_45 => bz_wQ h_44 a_45 x1 (some a_41) (fun h_46 => bz_J G κ kX10_init (d + 1) F bc bs 114 [some (.inr (some a0)), some (.inl (x1 + 1))] [] h_46))))))
set_option maxRecDepth 20000 in
set_option maxHeartbeats 4000000 in
theorem g_X10_init_114 {G : bz_G} {κ : bz_K} {l : Launch} {d : Nat} {F : Option bz_V → bz_H → Prop} {bc bs : Nat} (hl : κ.2.1 = l) (a0 : Nat) (x1 : Int32) (h : bz_H) (hP0 : w_X10_init_114 G κ l d F bc bs a0 x1 h) : bz_J G κ kX10_init (d + 1) F (bc + 1) (bs + 15) 114 [some (.inr (some a0)), some (.inl x1)] [] h := by
  subst hl
  unfold w_X10_init_114 at hP0
  refine bz_iload_n (pc := 114) dX10_init_114 rfl rfl ?_
  refine bz_bipush (pc := 115) dX10_init_115 cb_24 ?_
  refine bz_icmp_ge (tgt := 139) (pc := 117) dX10_init_117 rfl (fun c => ?_) (fun c => ?_)
  · have hP1 := hP0.1 c
    clear hP0
    refine bz_iconst (pc := 139) dX10_init_139 ci_0 ?_
    refine bz_s_istore_n (pc := 140) dX10_init_140 rfl (Nat.le_of_ble_eq_true rfl) [some (.inr (some a0)), some (.inl 0)] rfl ?_
    exact bz_more (by omega) (by omega) hP1
  · have hP2 := hP0.2 c
    clear hP0
    refine bz_aload_n (pc := 120) dX10_init_120 rfl rfl ?_
    refine bz_rw_rR (pc := 121) dX10_init_121 fl_X10_29 hP2 (fun r_40 hP3 => ?_)
    clear hP2
    refine bz_iload_n (pc := 124) dX10_init_124 rfl rfl ?_
    refine bz_rw_new (ci := 2) (q := (RX2, TX2, 15)) (n := 15) (bc := bc) (bs := bs) (pc := 125) dX10_init_125 rfl cl_X10_27 it_2 ii_2 rfl (df_2 G) hP3 (fun a_41 h_42 hP4 => ?_)
    clear hP3
    refine bz_dup (pc := 128) dX10_init_128 ?_
    refine bz_kVIN (as := []) (st := [.inr (some a_41), .inl x1, .inr r_40]) (n := 0) (mc := 0) (ms := 0) (bc := bc) (bs := bs) (yc := kX2_init) (b := a_41) (host := RX11) (pc := 129) dX10_init_129 sc_X2_init rfl ml_X10_65 im_X2_init rfl rfl (Nat.le_of_ble_eq_true rfl) hP4 (fun h_44 hP5 => ?_)
    clear hP4
    obtain ⟨a_45, rfl, hP6⟩ := hP5
    refine bz_rw_stq (pc := 132) dX10_init_132 hP6 (fun h_46 hP7 => ?_)
    clear hP6
    refine bz_s_iinc (pc := 133) dX10_init_133 (Nat.le_of_ble_eq_true rfl) rfl rfl [some (.inr (some a0)), some (.inl (x1 + 1))] rfl ?_
    refine bz_goto (tgt := 114) (pc := 136) dX10_init_136 rfl ?_
    exact hP7
def w_X10_init_141 (G : bz_G) (κ : bz_K) (l : Launch) (d : Nat) (F : Option bz_V → bz_H → Prop) (bc bs : Nat) (a0 : Nat) (x1 : Int32) (h : bz_H) : Prop := (12 ≤ x1 → bz_rR h a0 10 8 (fun r_47 => bz_cV G l d kJ7_fill_53178 [.inr r_47, .inl (-1)] h 0 0 (fun h_49 => F none h_49))) ∧ (¬ (12 ≤ x1) → bz_rR h a0 10 3 (fun r_50 => bz_al h (bz_co 3 [.inl 0, .inl 0, .inl 0, .inl 0, .inl 0, .inl 0, .inl 0, .inl 0, .inr none]) (fun a_51 h_52 => bz_cV G l d kX3_init [.inr (some a_51), .inl x1] h_52 2 74 (fun h_54 => bz_nn r_50 (fun a_55 => bz_wQ h_54 a_55 x1 (some a_51) (fun h_56 => bz_J G κ kX10_init (d + 1) F bc bs 141 [some (.inr (some a0)), some (.inl (x1 + 1))] [] h_56))))))
set_option maxRecDepth 20000 in
set_option maxHeartbeats 4000000 in
theorem g_X10_init_141 {G : bz_G} {κ : bz_K} {l : Launch} {d : Nat} {F : Option bz_V → bz_H → Prop} {bc bs : Nat} (hl : κ.2.1 = l) (a0 : Nat) (x1 : Int32) (h : bz_H) (hP0 : w_X10_init_141 G κ l d F bc bs a0 x1 h) : bz_J G κ kX10_init (d + 1) F (bc + 3) (bs + 83) 141 [some (.inr (some a0)), some (.inl x1)] [] h := by
  subst hl
  unfold w_X10_init_141 at hP0
  refine bz_iload_n (pc := 141) dX10_init_141 rfl rfl ?_
  refine bz_bipush (pc := 142) dX10_init_142 cb_12 ?_
  refine bz_icmp_ge (tgt := 167) (pc := 144) dX10_init_144 rfl (fun c => ?_) (fun c => ?_)
  · have hP1 := hP0.1 c
    clear hP0
    refine bz_aload_n (pc := 167) dX10_init_167 rfl rfl ?_
    refine bz_rw_rR (pc := 168) dX10_init_168 fl_X10_54 hP1 (fun r_47 hP2 => ?_)
    clear hP1
    refine bz_iconst (pc := 171) dX10_init_171 ci_m1 ?_
    refine bz_kVS (as := [.inr r_47, .inl (-1)]) (st := []) (n := 2) (mc := 0) (ms := 0) (bc := (bc + 3)) (bs := (bs + 83)) (yc := kJ7_fill_53178) (pc := 172) dX10_init_172 sc_J7_fill_53178 ml_X10_67 ss_J7_fill_53178 rfl (Nat.le_of_ble_eq_true rfl) hP2 (fun h_49 hP3 => ?_)
    clear hP2
    exact bz_retV (pc := 175) dX10_init_175 rfl hP3
  · have hP4 := hP0.2 c
    clear hP0
    refine bz_aload_n (pc := 147) dX10_init_147 rfl rfl ?_
    refine bz_rw_rR (pc := 148) dX10_init_148 fl_X10_35 hP4 (fun r_50 hP5 => ?_)
    clear hP4
    refine bz_iload_n (pc := 151) dX10_init_151 rfl rfl ?_
    refine bz_rw_new (ci := 3) (q := (RX3, TX3, 9)) (n := 9) (bc := (bc + 2)) (bs := (bs + 74)) (pc := 152) dX10_init_152 rfl cl_X10_33 it_3 ii_3 rfl (df_3 G) hP5 (fun a_51 h_52 hP6 => ?_)
    clear hP5
    refine bz_dup (pc := 155) dX10_init_155 ?_
    refine bz_iload_n (pc := 156) dX10_init_156 rfl rfl ?_
    refine bz_kVI (as := [.inl x1]) (st := [.inr (some a_51), .inl x1, .inr r_50]) (n := 1) (mc := 2) (ms := 74) (bc := bc) (bs := bs) (yc := kX3_init) (b := a_51) (pc := 157) dX10_init_157 sc_X3_init rfl ml_X10_66 im_X3_init rfl rfl (Nat.le_of_ble_eq_true rfl) hP6 (fun h_54 hP7 => ?_)
    clear hP6
    obtain ⟨a_55, rfl, hP8⟩ := hP7
    refine bz_rw_stq (pc := 160) dX10_init_160 hP8 (fun h_56 hP9 => ?_)
    clear hP8
    refine bz_s_iinc (pc := 161) dX10_init_161 (Nat.le_of_ble_eq_true rfl) rfl rfl [some (.inr (some a0)), some (.inl (x1 + 1))] rfl ?_
    refine bz_goto (tgt := 141) (pc := 164) dX10_init_164 rfl ?_
    exact hP9
theorem m_X10_init {G : bz_G} {l : Launch} {d mc ms : Nat} {F : Option bz_V → bz_H → Prop} (a0 : Nat) (h : bz_H) (hP : ∀ κ : bz_K, κ.2.1 = l → w_X10_init_0 G κ l d F mc ms a0 h) : bz_Call G l (d + 1) kX10_init [.inr (some a0)] h (mc + 17) (ms + 898) F :=
  bz_body (by decide) (Nat.le_of_ble_eq_true rfl) (fun κ hl => g_X10_init_0 hl a0 h (hP κ hl))
def w_X11_init_0 (G : bz_G) (κ : bz_K) (l : Launch) (d : Nat) (F : Option bz_V → bz_H → Prop) (bc bs : Nat) (a0 : Nat) (h : bz_H) : Prop := bz_al h (bz_co 10 [.inr none, .inr none, .inr none, .inr none, .inr none, .inr none, .inr none, .inr none, .inr none, .inl 0, .inl 0, .inl 0, .inl 0, .inl 0, .inl 0, .inl 0]) (fun a_1 h_2 => bz_cV G l d kX10_init [.inr (some a_1)] h_2 81 2352 (fun h_4 => bz_wR h_4 a0 11 0 (some a_1) (fun h_5 => bz_al h_5 (bz_co 10 [.inr none, .inr none, .inr none, .inr none, .inr none, .inr none, .inr none, .inr none, .inr none, .inl 0, .inl 0, .inl 0, .inl 0, .inl 0, .inl 0, .inl 0]) (fun a_6 h_7 => bz_cV G l d kX10_init [.inr (some a_6)] h_7 81 2352 (fun h_9 => bz_wR h_9 a0 11 1 (some a_6) (fun h_10 => bz_b 0 (bz_wI h_10 a0 11 2 0 (fun h_11 => bz_al h_11 (bz_co 6 [.inr none, .inl 0, .inr none, .inl 0, .inl 0, .inl 0, .inl 0, .inl 0]) (fun a_12 h_13 => bz_cV G l d kX6_init [.inr (some a_12)] h_13 2 160 (fun h_15 => bz_wR h_15 a0 11 3 (some a_12) (fun h_16 => bz_aq h_16 4 4 4 (fun a_17 h_18 => bz_wR h_18 a0 11 4 (some a_17) (fun h_19 => bz_J G κ kX11_init (d + 1) F bc bs 52 [some (.inr (some a0)), some (.inl 0)] [] h_19)))))))))))))
set_option maxRecDepth 20000 in
set_option maxHeartbeats 4000000 in
theorem g_X11_init_0 {G : bz_G} {κ : bz_K} {l : Launch} {d : Nat} {F : Option bz_V → bz_H → Prop} {bc bs : Nat} (hl : κ.2.1 = l) (a0 : Nat) (h : bz_H) (hP0 : w_X11_init_0 G κ l d F bc bs a0 h) : bz_J G κ kX11_init (d + 1) F (bc + 168) (bs + 4908) 0 [some (.inr (some a0)), none] [] h := by
  subst hl
  unfold w_X11_init_0 at hP0
  refine bz_aload_n (pc := 0) dX11_init_0 rfl rfl ?_
  refine bz_objInit (pc := 1) dX11_init_1 ml_X11_3 oi_i oi_c (Nat.succ_pos d) (Nat.le_of_ble_eq_true rfl) ?_
  refine bz_aload_n (pc := 4) dX11_init_4 rfl rfl ?_
  refine bz_rw_new (ci := 10) (q := (RX10, TX10, 16)) (n := 16) (bc := (bc + 167)) (bs := (bs + 4892)) (pc := 5) dX11_init_5 rfl cl_X11_9 it_10 ii_10 rfl (df_10 G) hP0 (fun a_1 h_2 hP1 => ?_)
  clear hP0
  refine bz_dup (pc := 8) dX11_init_8 ?_
  refine bz_kVI (as := []) (st := [.inr (some a_1), .inr (some a0)]) (n := 0) (mc := 81) (ms := 2352) (bc := (bc + 86)) (bs := (bs + 2540)) (yc := kX10_init) (b := a_1) (pc := 9) dX11_init_9 sc_X10_init rfl ml_X11_11 im_X10_init rfl rfl (Nat.le_of_ble_eq_true rfl) hP1 (fun h_4 hP2 => ?_)
  clear hP1
  refine bz_rw_wRF (pc := 12) dX11_init_12 fl_X11_12 (fun q h9 => by cases h9; exact ⟨rfl, rfl⟩) rfl (by first | exact Or.inl ⟨_, rfl⟩ | exact Or.inr ⟨_, rfl⟩) hP2 (fun h_5 hP3 => ?_)
  clear hP2
  refine bz_aload_n (pc := 15) dX11_init_15 rfl rfl ?_
  refine bz_rw_new (ci := 10) (q := (RX10, TX10, 16)) (n := 16) (bc := (bc + 85)) (bs := (bs + 2524)) (pc := 16) dX11_init_16 rfl cl_X11_9 it_10 ii_10 rfl (df_10 G) hP3 (fun a_6 h_7 hP4 => ?_)
  clear hP3
  refine bz_dup (pc := 19) dX11_init_19 ?_
  refine bz_kVI (as := []) (st := [.inr (some a_6), .inr (some a0)]) (n := 0) (mc := 81) (ms := 2352) (bc := (bc + 4)) (bs := (bs + 172)) (yc := kX10_init) (b := a_6) (pc := 20) dX11_init_20 sc_X10_init rfl ml_X11_11 im_X10_init rfl rfl (Nat.le_of_ble_eq_true rfl) hP4 (fun h_9 hP5 => ?_)
  clear hP4
  refine bz_rw_wRF (pc := 23) dX11_init_23 fl_X11_16 (fun q h9 => by cases h9; exact ⟨rfl, rfl⟩) rfl (by first | exact Or.inl ⟨_, rfl⟩ | exact Or.inr ⟨_, rfl⟩) hP5 (fun h_10 hP6 => ?_)
  clear hP5
  refine bz_aload_n (pc := 26) dX11_init_26 rfl rfl ?_
  refine bz_iconst (pc := 27) dX11_init_27 ci_0 ?_
  refine bz_rw_wZ (pc := 28) dX11_init_28 fl_X11_19 (fun q h9 => by cases h9; rfl) rfl hP6 (fun h_11 hP7 => ?_)
  clear hP6
  refine bz_aload_n (pc := 31) dX11_init_31 rfl rfl ?_
  refine bz_rw_new (ci := 6) (q := (RX6, TX6, 8)) (n := 8) (bc := (bc + 3)) (bs := (bs + 164)) (pc := 32) dX11_init_32 rfl cl_X11_23 it_6 ii_6 rfl (df_6 G) hP7 (fun a_12 h_13 hP8 => ?_)
  clear hP7
  refine bz_dup (pc := 35) dX11_init_35 ?_
  refine bz_kVIN (as := []) (st := [.inr (some a_12), .inr (some a0)]) (n := 0) (mc := 2) (ms := 160) (bc := (bc + 1)) (bs := (bs + 4)) (yc := kX6_init) (b := a_12) (host := RX11) (pc := 36) dX11_init_36 sc_X6_init rfl ml_X11_25 im_X6_init rfl rfl (Nat.le_of_ble_eq_true rfl) hP8 (fun h_15 hP9 => ?_)
  clear hP8
  refine bz_rw_wRF (pc := 39) dX11_init_39 fl_X11_26 (fun q h9 => by cases h9; exact ⟨rfl, rfl⟩) rfl (by first | exact Or.inl ⟨_, rfl⟩ | exact Or.inr ⟨_, rfl⟩) hP9 (fun h_16 hP10 => ?_)
  clear hP9
  refine bz_aload_n (pc := 42) dX11_init_42 rfl rfl ?_
  refine bz_iconst (pc := 43) dX11_init_43 ci_4 ?_
  refine bz_rw_aq (N := 4) (t := 4) (C := RX5) (bc := bc) (bs := bs) (pc := 44) dX11_init_44 cl_X11_30 (by decide) rfl (by decide) hP10 (fun a_17 h_18 hP11 => ?_)
  clear hP10
  refine bz_rw_wRF (pc := 47) dX11_init_47 fl_X11_32 (fun q h9 => by cases h9; exact ⟨rfl, rfl⟩) rfl (by first | exact Or.inl ⟨_, rfl⟩ | exact Or.inr ⟨_, rfl⟩) hP11 (fun h_19 hP12 => ?_)
  clear hP11
  refine bz_iconst (pc := 50) dX11_init_50 ci_0 ?_
  refine bz_s_istore_n (pc := 51) dX11_init_51 rfl (Nat.le_of_ble_eq_true rfl) [some (.inr (some a0)), some (.inl 0)] rfl ?_
  exact hP12
def w_X11_init_52 (G : bz_G) (κ : bz_K) (l : Launch) (d : Nat) (F : Option bz_V → bz_H → Prop) (bc bs : Nat) (a0 : Nat) (x1 : Int32) (h : bz_H) : Prop := (4 ≤ x1 → bz_an h 7 7 (fun a_20 h_21 => bz_wR h_21 a0 11 5 (some a_20) (fun h_22 => bz_al h_22 (bz_co 9 [.inr none, .inr none, .inr none, .inl 0, .inl 0, .inl 0, .inl 0, .inl 0, .inl 0, .inl 0, .inl 0]) (fun a_23 h_24 => bz_rR h_24 a0 11 0 (fun r_25 => bz_nn r_25 (fun a_26 => bz_rR h_24 a_26 10 0 (fun r_27 => bz_cV G l d kX9_init [.inr (some a_23), .inr r_27] h_24 2 8 (fun h_29 => bz_wR h_29 a0 11 6 (some a_23) (fun h_30 => bz_al h_30 (bz_co 0 [.inr none, .inr none]) (fun a_31 h_32 => bz_cV G l d kX0_init [.inr (some a_31)] h_32 2 87 (fun h_34 => bz_wR h_34 a0 11 7 (some a_31) (fun h_35 => bz_al h_35 (bz_co 1 [.inr none, .inr none, .inr none, .inr none, .inr none, .inr none, .inr none, .inl 0, .inl 0, .inl 0]) (fun a_36 h_37 => bz_rR h_37 a0 11 0 (fun r_38 => bz_rR h_37 a0 11 6 (fun r_39 => bz_rR h_37 a0 11 7 (fun r_40 => bz_cV G l d kX1_init [.inr (some a_36), .inr r_38, .inr r_39, .inr r_40] h_37 4 60 (fun h_42 => bz_wR h_42 a0 11 8 (some a_36) (fun h_43 => F none h_43)))))))))))))))))) ∧ (¬ (4 ≤ x1) → bz_rR h a0 11 4 (fun r_44 => bz_al h (bz_co 5 [.inr none, .inl 0, .inl 0]) (fun a_45 h_46 => bz_cV G l d kX5_init [.inr (some a_45)] h_46 1 60 (fun h_48 => bz_nn r_44 (fun a_49 => bz_wQ h_48 a_49 x1 (some a_45) (fun h_50 => bz_J G κ kX11_init (d + 1) F bc bs 52 [some (.inr (some a0)), some (.inl (x1 + 1))] [] h_50))))))
set_option maxRecDepth 20000 in
set_option maxHeartbeats 4000000 in
theorem g_X11_init_52 {G : bz_G} {κ : bz_K} {l : Launch} {d : Nat} {F : Option bz_V → bz_H → Prop} {bc bs : Nat} (hl : κ.2.1 = l) (a0 : Nat) (x1 : Int32) (h : bz_H) (hP0 : w_X11_init_52 G κ l d F bc bs a0 x1 h) : bz_J G κ kX11_init (d + 1) F (bc + 12) (bs + 185) 52 [some (.inr (some a0)), some (.inl x1)] [] h := by
  subst hl
  unfold w_X11_init_52 at hP0
  refine bz_iload_n (pc := 52) dX11_init_52 rfl rfl ?_
  refine bz_iconst (pc := 53) dX11_init_53 ci_4 ?_
  refine bz_icmp_ge (tgt := 76) (pc := 54) dX11_init_54 rfl (fun c => ?_) (fun c => ?_)
  · have hP1 := hP0.1 c
    clear hP0
    refine bz_aload_n (pc := 76) dX11_init_76 rfl rfl ?_
    refine bz_bipush (pc := 77) dX11_init_77 cb_7 ?_
    refine bz_rw_an (N := 7) (bc := (bc + 11)) (bs := (bs + 178)) (pc := 79) dX11_init_79 ak_i (by decide) hP1 (fun a_20 h_21 hP2 => ?_)
    clear hP1
    refine bz_rw_wRF (pc := 81) dX11_init_81 fl_X11_37 (fun q h9 => by cases h9; exact ⟨rfl, rfl⟩) rfl (by first | exact Or.inl ⟨_, rfl⟩ | exact Or.inr ⟨_, rfl⟩) hP2 (fun h_22 hP3 => ?_)
    clear hP2
    refine bz_aload_n (pc := 84) dX11_init_84 rfl rfl ?_
    refine bz_rw_new (ci := 9) (q := (RX9, TX9, 11)) (n := 11) (bc := (bc + 10)) (bs := (bs + 167)) (pc := 85) dX11_init_85 rfl cl_X11_41 it_9 ii_9 rfl (df_9 G) hP3 (fun a_23 h_24 hP4 => ?_)
    clear hP3
    refine bz_dup (pc := 88) dX11_init_88 ?_
    refine bz_aload_n (pc := 89) dX11_init_89 rfl rfl ?_
    refine bz_rw_rR (pc := 90) dX11_init_90 fl_X11_12 hP4 (fun r_25 hP5 => ?_)
    clear hP4
    obtain ⟨a_26, rfl, hP6⟩ := hP5
    refine bz_rw_rR (pc := 93) dX11_init_93 fl_X11_43 hP6 (fun r_27 hP7 => ?_)
    clear hP6
    refine bz_kVI (as := [.inr r_27]) (st := [.inr (some a_23), .inr (some a0)]) (n := 1) (mc := 2) (ms := 8) (bc := (bc + 8)) (bs := (bs + 159)) (yc := kX9_init) (b := a_23) (pc := 96) dX11_init_96 sc_X9_init rfl ml_X11_47 im_X9_init rfl rfl (Nat.le_of_ble_eq_true rfl) hP7 (fun h_29 hP8 => ?_)
    clear hP7
    refine bz_rw_wRF (pc := 99) dX11_init_99 fl_X11_50 (fun q h9 => by cases h9; exact ⟨rfl, rfl⟩) rfl (by first | exact Or.inl ⟨_, rfl⟩ | exact Or.inr ⟨_, rfl⟩) hP8 (fun h_30 hP9 => ?_)
    clear hP8
    refine bz_aload_n (pc := 102) dX11_init_102 rfl rfl ?_
    refine bz_rw_new (ci := 0) (q := (RX0, TX0, 2)) (n := 2) (bc := (bc + 7)) (bs := (bs + 157)) (pc := 103) dX11_init_103 rfl cl_X11_54 it_0 ii_0 rfl (df_0 G) hP9 (fun a_31 h_32 hP10 => ?_)
    clear hP9
    refine bz_dup (pc := 106) dX11_init_106 ?_
    refine bz_kVIN (as := []) (st := [.inr (some a_31), .inr (some a0)]) (n := 0) (mc := 2) (ms := 87) (bc := (bc + 5)) (bs := (bs + 70)) (yc := kX0_init) (b := a_31) (host := RX11) (pc := 107) dX11_init_107 sc_X0_init rfl ml_X11_56 im_X0_init rfl rfl (Nat.le_of_ble_eq_true rfl) hP10 (fun h_34 hP11 => ?_)
    clear hP10
    refine bz_rw_wRF (pc := 110) dX11_init_110 fl_X11_57 (fun q h9 => by cases h9; exact ⟨rfl, rfl⟩) rfl (by first | exact Or.inl ⟨_, rfl⟩ | exact Or.inr ⟨_, rfl⟩) hP11 (fun h_35 hP12 => ?_)
    clear hP11
    refine bz_aload_n (pc := 113) dX11_init_113 rfl rfl ?_
    refine bz_rw_new (ci := 1) (q := (RX1, TX1, 10)) (n := 10) (bc := (bc + 4)) (bs := (bs + 60)) (pc := 114) dX11_init_114 rfl cl_X11_61 it_1 ii_1 rfl (df_1 G) hP12 (fun a_36 h_37 hP13 => ?_)
    clear hP12
    refine bz_dup (pc := 117) dX11_init_117 ?_
    refine bz_aload_n (pc := 118) dX11_init_118 rfl rfl ?_
    refine bz_rw_rR (pc := 119) dX11_init_119 fl_X11_12 hP13 (fun r_38 hP14 => ?_)
    clear hP13
    refine bz_aload_n (pc := 122) dX11_init_122 rfl rfl ?_
    refine bz_rw_rR (pc := 123) dX11_init_123 fl_X11_50 hP14 (fun r_39 hP15 => ?_)
    clear hP14
    refine bz_aload_n (pc := 126) dX11_init_126 rfl rfl ?_
    refine bz_rw_rR (pc := 127) dX11_init_127 fl_X11_57 hP15 (fun r_40 hP16 => ?_)
    clear hP15
    refine bz_kVI (as := [.inr r_38, .inr r_39, .inr r_40]) (st := [.inr (some a_36), .inr (some a0)]) (n := 3) (mc := 4) (ms := 60) (bc := bc) (bs := bs) (yc := kX1_init) (b := a_36) (pc := 130) dX11_init_130 sc_X1_init rfl ml_X11_63 im_X1_init rfl rfl (Nat.le_of_ble_eq_true rfl) hP16 (fun h_42 hP17 => ?_)
    clear hP16
    refine bz_rw_wRF (pc := 133) dX11_init_133 fl_X11_66 (fun q h9 => by cases h9; exact ⟨rfl, rfl⟩) rfl (by first | exact Or.inl ⟨_, rfl⟩ | exact Or.inr ⟨_, rfl⟩) hP17 (fun h_43 hP18 => ?_)
    clear hP17
    exact bz_retV (pc := 136) dX11_init_136 rfl hP18
  · have hP19 := hP0.2 c
    clear hP0
    refine bz_aload_n (pc := 57) dX11_init_57 rfl rfl ?_
    refine bz_rw_rR (pc := 58) dX11_init_58 fl_X11_32 hP19 (fun r_44 hP20 => ?_)
    clear hP19
    refine bz_iload_n (pc := 61) dX11_init_61 rfl rfl ?_
    refine bz_rw_new (ci := 5) (q := (RX5, TX5, 3)) (n := 3) (bc := (bc + 11)) (bs := (bs + 182)) (pc := 62) dX11_init_62 rfl cl_X11_30 it_5 ii_5 rfl (df_5 G) hP20 (fun a_45 h_46 hP21 => ?_)
    clear hP20
    refine bz_dup (pc := 65) dX11_init_65 ?_
    refine bz_kVIN (as := []) (st := [.inr (some a_45), .inl x1, .inr r_44]) (n := 0) (mc := 1) (ms := 60) (bc := (bc + 10)) (bs := (bs + 122)) (yc := kX5_init) (b := a_45) (host := RX11) (pc := 66) dX11_init_66 sc_X5_init rfl ml_X11_36 im_X5_init rfl rfl (Nat.le_of_ble_eq_true rfl) hP21 (fun h_48 hP22 => ?_)
    clear hP21
    obtain ⟨a_49, rfl, hP23⟩ := hP22
    refine bz_rw_stq (pc := 69) dX11_init_69 hP23 (fun h_50 hP24 => ?_)
    clear hP23
    refine bz_s_iinc (pc := 70) dX11_init_70 (Nat.le_of_ble_eq_true rfl) rfl rfl [some (.inr (some a0)), some (.inl (x1 + 1))] rfl ?_
    refine bz_goto (tgt := 52) (pc := 73) dX11_init_73 rfl ?_
    exact bz_more (by omega) (by omega) hP24
theorem m_X11_init {G : bz_G} {l : Launch} {d mc ms : Nat} {F : Option bz_V → bz_H → Prop} (a0 : Nat) (h : bz_H) (hP : ∀ κ : bz_K, κ.2.1 = l → w_X11_init_0 G κ l d F mc ms a0 h) : bz_Call G l (d + 1) kX11_init [.inr (some a0)] h (mc + 168) (ms + 4908) F :=
  bz_body (by decide) (Nat.le_of_ble_eq_true rfl) (fun κ hl => g_X11_init_0 hl a0 h (hP κ hl))
def w_X12_init_0 (G : bz_G) (κ : bz_K) (l : Launch) (d : Nat) (F : Option bz_V → bz_H → Prop) (bc bs : Nat) (a0 : Nat) (h : bz_H) : Prop := bz_an h 2296 2296 (fun a_1 h_2 => bz_wR h_2 a0 12 0 (some a_1) (fun h_3 => bz_an h_3 2296 2296 (fun a_4 h_5 => bz_wR h_5 a0 12 1 (some a_4) (fun h_6 => bz_an h_6 7 7 (fun a_7 h_8 => bz_wR h_8 a0 12 3 (some a_7) (fun h_9 => bz_an h_9 256 256 (fun a_10 h_11 => bz_wR h_11 a0 12 4 (some a_10) (fun h_12 => bz_an h_12 2 2 (fun a_13 h_14 => bz_wR h_14 a0 12 9 (some a_13) (fun h_15 => bz_an h_15 2 2 (fun a_16 h_17 => bz_wR h_17 a0 12 10 (some a_16) (fun h_18 => bz_an h_18 80 80 (fun a_19 h_20 => bz_wR h_20 a0 12 13 (some a_19) (fun h_21 => bz_an h_21 164 164 (fun a_22 h_23 => bz_wR h_23 a0 12 21 (some a_22) (fun h_24 => bz_an h_24 128 128 (fun a_25 h_26 => bz_wR h_26 a0 12 22 (some a_25) (fun h_27 => bz_an h_27 84 84 (fun a_28 h_29 => bz_wR h_29 a0 12 23 (some a_28) (fun h_30 => bz_an h_30 12 12 (fun a_31 h_32 => bz_wR h_32 a0 12 24 (some a_31) (fun h_33 => bz_an h_33 12 12 (fun a_34 h_35 => bz_wR h_35 a0 12 25 (some a_34) (fun h_36 => bz_an h_36 12 12 (fun a_37 h_38 => bz_wR h_38 a0 12 26 (some a_37) (fun h_39 => bz_an h_39 24 24 (fun a_40 h_41 => bz_wR h_41 a0 12 27 (some a_40) (fun h_42 => bz_an h_42 4 4 (fun a_43 h_44 => bz_wR h_44 a0 12 30 (some a_43) (fun h_45 => bz_an h_45 4 4 (fun a_46 h_47 => bz_wR h_47 a0 12 31 (some a_46) (fun h_48 => bz_an h_48 240 240 (fun a_49 h_50 => bz_wR h_50 a0 12 32 (some a_49) (fun h_51 => bz_an h_51 60 60 (fun a_52 h_53 => bz_wR h_53 a0 12 33 (some a_52) (fun h_54 => bz_rR h_54 a0 12 0 (fun r_55 => bz_nn r_55 (fun a_56 => bz_wA h_54 a_56 5 (-1) (fun h_57 => bz_rR h_57 a0 12 0 (fun r_58 => bz_nn r_58 (fun a_59 => bz_wA h_57 a_59 6 (-1) (fun h_60 => bz_J G κ kX12_init (d + 1) F bc bs 167 [some (.inr (some a0)), some (.inl 0)] [] h_60))))))))))))))))))))))))))))))))))))))))))
set_option maxRecDepth 20000 in
set_option maxHeartbeats 4000000 in
theorem g_X12_init_0 {G : bz_G} {κ : bz_K} {l : Launch} {d : Nat} {F : Option bz_V → bz_H → Prop} {bc bs : Nat} (hl : κ.2.1 = l) (a0 : Nat) (h : bz_H) (hP0 : w_X12_init_0 G κ l d F bc bs a0 h) : bz_J G κ kX12_init (d + 1) F (bc + 18) (bs + 5683) 0 [some (.inr (some a0)), none] [] h := by
  subst hl
  unfold w_X12_init_0 at hP0
  refine bz_aload_n (pc := 0) dX12_init_0 rfl rfl ?_
  refine bz_objInit (pc := 1) dX12_init_1 ml_X12_1 oi_i oi_c (Nat.succ_pos d) (Nat.le_of_ble_eq_true rfl) ?_
  refine bz_aload_n (pc := 4) dX12_init_4 rfl rfl ?_
  refine bz_sipush (pc := 5) dX12_init_5 cs_2296 ?_
  refine bz_rw_an (N := 2296) (bc := (bc + 17)) (bs := (bs + 3387)) (pc := 8) dX12_init_8 ak_i (by decide) hP0 (fun a_1 h_2 hP1 => ?_)
  clear hP0
  refine bz_rw_wRF (pc := 10) dX12_init_10 fl_X12_7 (fun q h9 => by cases h9; exact ⟨rfl, rfl⟩) rfl (by first | exact Or.inl ⟨_, rfl⟩ | exact Or.inr ⟨_, rfl⟩) hP1 (fun h_3 hP2 => ?_)
  clear hP1
  refine bz_aload_n (pc := 13) dX12_init_13 rfl rfl ?_
  refine bz_sipush (pc := 14) dX12_init_14 cs_2296 ?_
  refine bz_rw_an (N := 2296) (bc := (bc + 16)) (bs := (bs + 1091)) (pc := 17) dX12_init_17 ak_i (by decide) hP2 (fun a_4 h_5 hP3 => ?_)
  clear hP2
  refine bz_rw_wRF (pc := 19) dX12_init_19 fl_X12_13 (fun q h9 => by cases h9; exact ⟨rfl, rfl⟩) rfl (by first | exact Or.inl ⟨_, rfl⟩ | exact Or.inr ⟨_, rfl⟩) hP3 (fun h_6 hP4 => ?_)
  clear hP3
  refine bz_aload_n (pc := 22) dX12_init_22 rfl rfl ?_
  refine bz_bipush (pc := 23) dX12_init_23 cb_7 ?_
  refine bz_rw_an (N := 7) (bc := (bc + 15)) (bs := (bs + 1084)) (pc := 25) dX12_init_25 ak_i (by decide) hP4 (fun a_7 h_8 hP5 => ?_)
  clear hP4
  refine bz_rw_wRF (pc := 27) dX12_init_27 fl_X12_16 (fun q h9 => by cases h9; exact ⟨rfl, rfl⟩) rfl (by first | exact Or.inl ⟨_, rfl⟩ | exact Or.inr ⟨_, rfl⟩) hP5 (fun h_9 hP6 => ?_)
  clear hP5
  refine bz_aload_n (pc := 30) dX12_init_30 rfl rfl ?_
  refine bz_sipush (pc := 31) dX12_init_31 cs_256 ?_
  refine bz_rw_an (N := 256) (bc := (bc + 14)) (bs := (bs + 828)) (pc := 34) dX12_init_34 ak_i (by decide) hP6 (fun a_10 h_11 hP7 => ?_)
  clear hP6
  refine bz_rw_wRF (pc := 36) dX12_init_36 fl_X12_19 (fun q h9 => by cases h9; exact ⟨rfl, rfl⟩) rfl (by first | exact Or.inl ⟨_, rfl⟩ | exact Or.inr ⟨_, rfl⟩) hP7 (fun h_12 hP8 => ?_)
  clear hP7
  refine bz_aload_n (pc := 39) dX12_init_39 rfl rfl ?_
  refine bz_iconst (pc := 40) dX12_init_40 ci_2 ?_
  refine bz_rw_an (N := 2) (bc := (bc + 13)) (bs := (bs + 826)) (pc := 41) dX12_init_41 ak_i (by decide) hP8 (fun a_13 h_14 hP9 => ?_)
  clear hP8
  refine bz_rw_wRF (pc := 43) dX12_init_43 fl_X12_22 (fun q h9 => by cases h9; exact ⟨rfl, rfl⟩) rfl (by first | exact Or.inl ⟨_, rfl⟩ | exact Or.inr ⟨_, rfl⟩) hP9 (fun h_15 hP10 => ?_)
  clear hP9
  refine bz_aload_n (pc := 46) dX12_init_46 rfl rfl ?_
  refine bz_iconst (pc := 47) dX12_init_47 ci_2 ?_
  refine bz_rw_an (N := 2) (bc := (bc + 12)) (bs := (bs + 824)) (pc := 48) dX12_init_48 ak_i (by decide) hP10 (fun a_16 h_17 hP11 => ?_)
  clear hP10
  refine bz_rw_wRF (pc := 50) dX12_init_50 fl_X12_25 (fun q h9 => by cases h9; exact ⟨rfl, rfl⟩) rfl (by first | exact Or.inl ⟨_, rfl⟩ | exact Or.inr ⟨_, rfl⟩) hP11 (fun h_18 hP12 => ?_)
  clear hP11
  refine bz_aload_n (pc := 53) dX12_init_53 rfl rfl ?_
  refine bz_bipush (pc := 54) dX12_init_54 cb_80 ?_
  refine bz_rw_an (N := 80) (bc := (bc + 11)) (bs := (bs + 744)) (pc := 56) dX12_init_56 ak_i (by decide) hP12 (fun a_19 h_20 hP13 => ?_)
  clear hP12
  refine bz_rw_wRF (pc := 58) dX12_init_58 fl_X12_28 (fun q h9 => by cases h9; exact ⟨rfl, rfl⟩) rfl (by first | exact Or.inl ⟨_, rfl⟩ | exact Or.inr ⟨_, rfl⟩) hP13 (fun h_21 hP14 => ?_)
  clear hP13
  refine bz_aload_n (pc := 61) dX12_init_61 rfl rfl ?_
  refine bz_sipush (pc := 62) dX12_init_62 cs_164 ?_
  refine bz_rw_an (N := 164) (bc := (bc + 10)) (bs := (bs + 580)) (pc := 65) dX12_init_65 ak_i (by decide) hP14 (fun a_22 h_23 hP15 => ?_)
  clear hP14
  refine bz_rw_wRF (pc := 67) dX12_init_67 fl_X12_31 (fun q h9 => by cases h9; exact ⟨rfl, rfl⟩) rfl (by first | exact Or.inl ⟨_, rfl⟩ | exact Or.inr ⟨_, rfl⟩) hP15 (fun h_24 hP16 => ?_)
  clear hP15
  refine bz_aload_n (pc := 70) dX12_init_70 rfl rfl ?_
  refine bz_sipush (pc := 71) dX12_init_71 cs_128 ?_
  refine bz_rw_an (N := 128) (bc := (bc + 9)) (bs := (bs + 452)) (pc := 74) dX12_init_74 ak_i (by decide) hP16 (fun a_25 h_26 hP17 => ?_)
  clear hP16
  refine bz_rw_wRF (pc := 76) dX12_init_76 fl_X12_34 (fun q h9 => by cases h9; exact ⟨rfl, rfl⟩) rfl (by first | exact Or.inl ⟨_, rfl⟩ | exact Or.inr ⟨_, rfl⟩) hP17 (fun h_27 hP18 => ?_)
  clear hP17
  refine bz_aload_n (pc := 79) dX12_init_79 rfl rfl ?_
  refine bz_bipush (pc := 80) dX12_init_80 cb_84 ?_
  refine bz_rw_an (N := 84) (bc := (bc + 8)) (bs := (bs + 368)) (pc := 82) dX12_init_82 ak_i (by decide) hP18 (fun a_28 h_29 hP19 => ?_)
  clear hP18
  refine bz_rw_wRF (pc := 84) dX12_init_84 fl_X12_37 (fun q h9 => by cases h9; exact ⟨rfl, rfl⟩) rfl (by first | exact Or.inl ⟨_, rfl⟩ | exact Or.inr ⟨_, rfl⟩) hP19 (fun h_30 hP20 => ?_)
  clear hP19
  refine bz_aload_n (pc := 87) dX12_init_87 rfl rfl ?_
  refine bz_bipush (pc := 88) dX12_init_88 cb_12 ?_
  refine bz_rw_an (N := 12) (bc := (bc + 7)) (bs := (bs + 356)) (pc := 90) dX12_init_90 ak_i (by decide) hP20 (fun a_31 h_32 hP21 => ?_)
  clear hP20
  refine bz_rw_wRF (pc := 92) dX12_init_92 fl_X12_40 (fun q h9 => by cases h9; exact ⟨rfl, rfl⟩) rfl (by first | exact Or.inl ⟨_, rfl⟩ | exact Or.inr ⟨_, rfl⟩) hP21 (fun h_33 hP22 => ?_)
  clear hP21
  refine bz_aload_n (pc := 95) dX12_init_95 rfl rfl ?_
  refine bz_bipush (pc := 96) dX12_init_96 cb_12 ?_
  refine bz_rw_an (N := 12) (bc := (bc + 6)) (bs := (bs + 344)) (pc := 98) dX12_init_98 ak_i (by decide) hP22 (fun a_34 h_35 hP23 => ?_)
  clear hP22
  refine bz_rw_wRF (pc := 100) dX12_init_100 fl_X12_43 (fun q h9 => by cases h9; exact ⟨rfl, rfl⟩) rfl (by first | exact Or.inl ⟨_, rfl⟩ | exact Or.inr ⟨_, rfl⟩) hP23 (fun h_36 hP24 => ?_)
  clear hP23
  refine bz_aload_n (pc := 103) dX12_init_103 rfl rfl ?_
  refine bz_bipush (pc := 104) dX12_init_104 cb_12 ?_
  refine bz_rw_an (N := 12) (bc := (bc + 5)) (bs := (bs + 332)) (pc := 106) dX12_init_106 ak_i (by decide) hP24 (fun a_37 h_38 hP25 => ?_)
  clear hP24
  refine bz_rw_wRF (pc := 108) dX12_init_108 fl_X12_46 (fun q h9 => by cases h9; exact ⟨rfl, rfl⟩) rfl (by first | exact Or.inl ⟨_, rfl⟩ | exact Or.inr ⟨_, rfl⟩) hP25 (fun h_39 hP26 => ?_)
  clear hP25
  refine bz_aload_n (pc := 111) dX12_init_111 rfl rfl ?_
  refine bz_bipush (pc := 112) dX12_init_112 cb_24 ?_
  refine bz_rw_an (N := 24) (bc := (bc + 4)) (bs := (bs + 308)) (pc := 114) dX12_init_114 ak_i (by decide) hP26 (fun a_40 h_41 hP27 => ?_)
  clear hP26
  refine bz_rw_wRF (pc := 116) dX12_init_116 fl_X12_49 (fun q h9 => by cases h9; exact ⟨rfl, rfl⟩) rfl (by first | exact Or.inl ⟨_, rfl⟩ | exact Or.inr ⟨_, rfl⟩) hP27 (fun h_42 hP28 => ?_)
  clear hP27
  refine bz_aload_n (pc := 119) dX12_init_119 rfl rfl ?_
  refine bz_iconst (pc := 120) dX12_init_120 ci_4 ?_
  refine bz_rw_an (N := 4) (bc := (bc + 3)) (bs := (bs + 304)) (pc := 121) dX12_init_121 ak_i (by decide) hP28 (fun a_43 h_44 hP29 => ?_)
  clear hP28
  refine bz_rw_wRF (pc := 123) dX12_init_123 fl_X12_52 (fun q h9 => by cases h9; exact ⟨rfl, rfl⟩) rfl (by first | exact Or.inl ⟨_, rfl⟩ | exact Or.inr ⟨_, rfl⟩) hP29 (fun h_45 hP30 => ?_)
  clear hP29
  refine bz_aload_n (pc := 126) dX12_init_126 rfl rfl ?_
  refine bz_iconst (pc := 127) dX12_init_127 ci_4 ?_
  refine bz_rw_an (N := 4) (bc := (bc + 2)) (bs := (bs + 300)) (pc := 128) dX12_init_128 ak_i (by decide) hP30 (fun a_46 h_47 hP31 => ?_)
  clear hP30
  refine bz_rw_wRF (pc := 130) dX12_init_130 fl_X12_55 (fun q h9 => by cases h9; exact ⟨rfl, rfl⟩) rfl (by first | exact Or.inl ⟨_, rfl⟩ | exact Or.inr ⟨_, rfl⟩) hP31 (fun h_48 hP32 => ?_)
  clear hP31
  refine bz_aload_n (pc := 133) dX12_init_133 rfl rfl ?_
  refine bz_sipush (pc := 134) dX12_init_134 cs_240 ?_
  refine bz_rw_an (N := 240) (bc := (bc + 1)) (bs := (bs + 60)) (pc := 137) dX12_init_137 ak_i (by decide) hP32 (fun a_49 h_50 hP33 => ?_)
  clear hP32
  refine bz_rw_wRF (pc := 139) dX12_init_139 fl_X12_58 (fun q h9 => by cases h9; exact ⟨rfl, rfl⟩) rfl (by first | exact Or.inl ⟨_, rfl⟩ | exact Or.inr ⟨_, rfl⟩) hP33 (fun h_51 hP34 => ?_)
  clear hP33
  refine bz_aload_n (pc := 142) dX12_init_142 rfl rfl ?_
  refine bz_bipush (pc := 143) dX12_init_143 cb_60 ?_
  refine bz_rw_an (N := 60) (bc := bc) (bs := bs) (pc := 145) dX12_init_145 ak_i (by decide) hP34 (fun a_52 h_53 hP35 => ?_)
  clear hP34
  refine bz_rw_wRF (pc := 147) dX12_init_147 fl_X12_61 (fun q h9 => by cases h9; exact ⟨rfl, rfl⟩) rfl (by first | exact Or.inl ⟨_, rfl⟩ | exact Or.inr ⟨_, rfl⟩) hP35 (fun h_54 hP36 => ?_)
  clear hP35
  refine bz_aload_n (pc := 150) dX12_init_150 rfl rfl ?_
  refine bz_rw_rR (pc := 151) dX12_init_151 fl_X12_7 hP36 (fun r_55 hP37 => ?_)
  clear hP36
  refine bz_iconst (pc := 154) dX12_init_154 ci_5 ?_
  refine bz_iconst (pc := 155) dX12_init_155 ci_m1 ?_
  obtain ⟨a_56, rfl, hP38⟩ := hP37
  refine bz_rw_wA (pc := 156) dX12_init_156 hP38 (fun h_57 hP39 => ?_)
  clear hP38
  refine bz_aload_n (pc := 157) dX12_init_157 rfl rfl ?_
  refine bz_rw_rR (pc := 158) dX12_init_158 fl_X12_7 hP39 (fun r_58 hP40 => ?_)
  clear hP39
  refine bz_bipush (pc := 161) dX12_init_161 cb_6 ?_
  refine bz_iconst (pc := 163) dX12_init_163 ci_m1 ?_
  obtain ⟨a_59, rfl, hP41⟩ := hP40
  refine bz_rw_wA (pc := 164) dX12_init_164 hP41 (fun h_60 hP42 => ?_)
  clear hP41
  refine bz_iconst (pc := 165) dX12_init_165 ci_0 ?_
  refine bz_s_istore_n (pc := 166) dX12_init_166 rfl (Nat.le_of_ble_eq_true rfl) [some (.inr (some a0)), some (.inl 0)] rfl ?_
  exact hP42
def w_X12_init_167 (G : bz_G) (κ : bz_K) (l : Launch) (d : Nat) (F : Option bz_V → bz_H → Prop) (bc bs : Nat) (a0 : Nat) (x1 : Int32) (h : bz_H) : Prop := (10 ≤ x1 → F none h) ∧ (¬ (10 ≤ x1) → bz_rR h a0 12 0 (fun r_61 => bz_nn r_61 (fun a_62 => bz_wA h a_62 (966 + x1) (-1) (fun h_63 => bz_J G κ kX12_init (d + 1) F bc bs 167 [some (.inr (some a0)), some (.inl (x1 + 1))] [] h_63))))
set_option maxRecDepth 20000 in
set_option maxHeartbeats 4000000 in
theorem g_X12_init_167 {G : bz_G} {κ : bz_K} {l : Launch} {d : Nat} {F : Option bz_V → bz_H → Prop} {bc bs : Nat} (hl : κ.2.1 = l) (a0 : Nat) (x1 : Int32) (h : bz_H) (hP0 : w_X12_init_167 G κ l d F bc bs a0 x1 h) : bz_J G κ kX12_init (d + 1) F bc bs 167 [some (.inr (some a0)), some (.inl x1)] [] h := by
  subst hl
  unfold w_X12_init_167 at hP0
  refine bz_iload_n (pc := 167) dX12_init_167 rfl rfl ?_
  refine bz_bipush (pc := 168) dX12_init_168 cb_10 ?_
  refine bz_icmp_ge (tgt := 190) (pc := 170) dX12_init_170 rfl (fun c => ?_) (fun c => ?_)
  · have hP1 := hP0.1 c
    clear hP0
    exact bz_retV (pc := 190) dX12_init_190 rfl hP1
  · have hP2 := hP0.2 c
    clear hP0
    refine bz_aload_n (pc := 173) dX12_init_173 rfl rfl ?_
    refine bz_rw_rR (pc := 174) dX12_init_174 fl_X12_7 hP2 (fun r_61 hP3 => ?_)
    clear hP2
    refine bz_sipush (pc := 177) dX12_init_177 cs_966 ?_
    refine bz_iload_n (pc := 180) dX12_init_180 rfl rfl ?_
    refine bz_iadd (pc := 181) dX12_init_181 ?_
    refine bz_iconst (pc := 182) dX12_init_182 ci_m1 ?_
    obtain ⟨a_62, rfl, hP4⟩ := hP3
    refine bz_rw_wA (pc := 183) dX12_init_183 hP4 (fun h_63 hP5 => ?_)
    clear hP4
    refine bz_s_iinc (pc := 184) dX12_init_184 (Nat.le_of_ble_eq_true rfl) rfl rfl [some (.inr (some a0)), some (.inl (x1 + 1))] rfl ?_
    refine bz_goto (tgt := 167) (pc := 187) dX12_init_187 rfl ?_
    exact hP5
theorem m_X12_init {G : bz_G} {l : Launch} {d mc ms : Nat} {F : Option bz_V → bz_H → Prop} (a0 : Nat) (h : bz_H) (hP : ∀ κ : bz_K, κ.2.1 = l → w_X12_init_0 G κ l d F mc ms a0 h) : bz_Call G l (d + 1) kX12_init [.inr (some a0)] h (mc + 18) (ms + 5683) F :=
  bz_body (by decide) (Nat.le_of_ble_eq_true rfl) (fun κ hl => g_X12_init_0 hl a0 h (hP κ hl))
def w_J7_copyOf_59c91_0 (G : bz_G) (l : Launch) (d : Nat) (F : Option bz_V → bz_H → Prop) (r0 : Option Nat) (x1 : Int32) (h : bz_H) : Prop := bz_nn r0 (fun a_1 => bz_rN h a_1 (fun x_2 => (¬ x1 = x_2 → bz_an h x1 80 (fun a_3 h_4 => bz_rN h_4 a_1 (fun x_5 => bz_cp h_4 a_1 0 a_3 0 (if x1 < x_5 then x1 else x_5) (fun h_6 => F (some (.inr (some a_3))) h_6)))) ∧ (x1 = x_2 → bz_cn h a_1 80 (fun a_7 h_8 => bz_is h_8 a_7 (F (some (.inr (some a_7))) h_8)))))
set_option maxRecDepth 20000 in
set_option maxHeartbeats 4000000 in
theorem g_J7_copyOf_59c91_0 {G : bz_G} {κ : bz_K} {l : Launch} {d : Nat} {F : Option bz_V → bz_H → Prop} {bc bs : Nat} (hl : κ.2.1 = l) (r0 : Option Nat) (x1 : Int32) (h : bz_H) (hP0 : w_J7_copyOf_59c91_0 G l d F r0 x1 h) : bz_J G κ kJ7_copyOf_59c91 (d + 1) F (bc + 1) (bs + 80) 0 [some (.inr r0), some (.inl x1), none] [] h := by
  subst hl
  unfold w_J7_copyOf_59c91_0 at hP0
  refine bz_iload_n (pc := 0) dJ7_copyOf_59c91_0 rfl rfl ?_
  refine bz_aload_n (pc := 1) dJ7_copyOf_59c91_1 rfl rfl ?_
  obtain ⟨a_1, rfl, hP1⟩ := hP0
  refine bz_rw_rN (pc := 2) dJ7_copyOf_59c91_2 hP1 (fun x_2 hP2 => ?_)
  clear hP1
  refine bz_icmp_ne (tgt := 14) (pc := 3) dJ7_copyOf_59c91_3 rfl (fun c => ?_) (fun c => ?_)
  · have hP3 := hP2.1 c
    clear hP2
    refine bz_iload_n (pc := 14) dJ7_copyOf_59c91_14 rfl rfl ?_
    refine bz_rw_an (N := 80) (bc := bc) (bs := bs) (pc := 15) dJ7_copyOf_59c91_15 ak_i (by decide) hP3 (fun a_3 h_4 hP4 => ?_)
    clear hP3
    refine bz_s_astore_n (pc := 17) dJ7_copyOf_59c91_17 rfl (Nat.le_of_ble_eq_true rfl) [some (.inr (some a_1)), some (.inl x1), some (.inr (some a_3))] rfl ?_
    refine bz_aload_n (pc := 18) dJ7_copyOf_59c91_18 rfl rfl ?_
    refine bz_iconst (pc := 19) dJ7_copyOf_59c91_19 ci_0 ?_
    refine bz_aload_n (pc := 20) dJ7_copyOf_59c91_20 rfl rfl ?_
    refine bz_iconst (pc := 21) dJ7_copyOf_59c91_21 ci_0 ?_
    refine bz_aload_n (pc := 22) dJ7_copyOf_59c91_22 rfl rfl ?_
    refine bz_rw_rN (pc := 23) dJ7_copyOf_59c91_23 hP4 (fun x_5 hP5 => ?_)
    clear hP4
    refine bz_iload_n (pc := 24) dJ7_copyOf_59c91_24 rfl rfl ?_
    refine bz_mmin (pc := 25) dJ7_copyOf_59c91_25 ml_J7_304 mt_min mt_init mt_code_min (Nat.succ_pos d) (Nat.le_of_ble_eq_true rfl) ?_
    refine bz_rw_cp (pc := 28) dJ7_copyOf_59c91_28 ml_J7_150 ac_n ac_s ac_i (Nat.le_of_ble_eq_true rfl) hP5 (fun h_6 hP6 => ?_)
    clear hP5
    refine bz_aload_n (pc := 31) dJ7_copyOf_59c91_31 rfl rfl ?_
    exact bz_retR (pc := 32) dJ7_copyOf_59c91_32 rfl (by first | exact Or.inl ⟨_, rfl⟩ | exact Or.inr ⟨_, rfl⟩) hP6
  · have hP7 := hP2.2 c
    clear hP2
    refine bz_aload_n (pc := 6) dJ7_copyOf_59c91_6 rfl rfl ?_
    refine bz_rw_cn (N := 80) (bc := bc) (bs := bs) (pc := 7) dJ7_copyOf_59c91_7 ml_J7_316 cn_2 cn_3 cn_4 cn_5 (Nat.le_of_ble_eq_true rfl) hP7 (fun a_7 h_8 hP8 => ?_)
    clear hP7
    refine bz_rw_is (pc := 10) dJ7_copyOf_59c91_10 cl_J7_317 hP8 (fun hP9 => ?_)
    clear hP8
    exact bz_retR (pc := 13) dJ7_copyOf_59c91_13 rfl (by first | exact Or.inl ⟨_, rfl⟩ | exact Or.inr ⟨_, rfl⟩) hP9
theorem m_J7_copyOf_59c91 {G : bz_G} {l : Launch} {d mc ms : Nat} {F : Option bz_V → bz_H → Prop} (r0 : Option Nat) (x1 : Int32) (h : bz_H) (hP : w_J7_copyOf_59c91_0 G l d F r0 x1 h) : bz_Call G l (d + 1) kJ7_copyOf_59c91 [.inr r0, .inl x1] h (mc + 1) (ms + 80) F :=
  bz_body (by decide) (Nat.le_of_ble_eq_true rfl) (fun κ hl => g_J7_copyOf_59c91_0 hl r0 x1 h hP)
def w_X11_text_0 (G : bz_G) (l : Launch) (d : Nat) (F : Option bz_V → bz_H → Prop) (a0 : Nat) (h : bz_H) : Prop := bz_rR h a0 11 0 (fun r_1 => bz_nn r_1 (fun a_2 => bz_rI h a_2 10 11 (fun x_3 => (x_3 < 8 → bz_rR h a0 11 3 (fun r_4 => bz_nn r_4 (fun a_7 => bz_rc h a_7 6 (bz_cI G l d kX6_readAll [.inr (some a_7)] h 0 0 (fun x_5 h_6 => bz_rR h_6 a0 11 3 (fun r_8 => bz_nn r_8 (fun a_9 => bz_wI h_6 a_9 6 1 0 (fun h_10 => (x_5 = (-1) → bz_rR h_10 a0 11 0 (fun r_11 => bz_al h_10 (bz_co 7 [.inr none]) (fun a_12 h_13 => bz_rR h_13 a0 11 3 (fun r_14 => bz_nn r_14 (fun a_15 => bz_rR h_13 a_15 6 2 (fun r_16 => bz_rR h_13 a0 11 3 (fun r_17 => bz_nn r_17 (fun a_18 => bz_rI h_13 a_18 6 3 (fun x_19 => bz_cR G l d kJ7_copyOf_59c91 [.inr r_16, .inl x_19] h_13 1 80 (fun r_20 h_21 => bz_cV G l d kX7_init [.inr (some a_12), .inr r_20] h_21 0 0 (fun h_23 => bz_nn r_11 (fun a_26 => bz_rc h_23 a_26 10 (bz_cV G l d kX10_addText [.inr (some a_26), .inr (some a_12)] h_23 0 0 (fun h_25 => bz_rR h_25 a0 11 0 (fun r_27 => bz_nn r_27 (fun a_28 => bz_rI h_25 a_28 10 11 (fun x_29 => F (some (.inl (x_29 - 1))) h_25))))))))))))))))) ∧ (¬ (x_5 = (-1)) → F (some (.inl ((-1) - x_5))) h_10))))))))) ∧ (¬ (x_3 < 8) → bz_rc h a0 11 (bz_cI G l d kX11_finding [.inr (some a0), .inl (-1000002)] h 0 0 (fun x_30 h_31 => F (some (.inl x_30)) h_31))))))
set_option maxRecDepth 20000 in
set_option maxHeartbeats 4000000 in
theorem g_X11_text_0 {G : bz_G} {κ : bz_K} {l : Launch} {d : Nat} {F : Option bz_V → bz_H → Prop} {bc bs : Nat} (hl : κ.2.1 = l) (a0 : Nat) (h : bz_H) (hP0 : w_X11_text_0 G l d F a0 h) : bz_J G κ kX11_text (d + 1) F (bc + 2) (bs + 81) 0 [some (.inr (some a0)), none] [] h := by
  subst hl
  unfold w_X11_text_0 at hP0
  refine bz_aload_n (pc := 0) dX11_text_0 rfl rfl ?_
  refine bz_rw_rR (pc := 1) dX11_text_1 fl_X11_12 hP0 (fun r_1 hP1 => ?_)
  clear hP0
  obtain ⟨a_2, rfl, hP2⟩ := hP1
  refine bz_rw_rI (pc := 4) dX11_text_4 fl_X11_247 hP2 (fun x_3 hP3 => ?_)
  clear hP2
  refine bz_bipush (pc := 7) dX11_text_7 cb_8 ?_
  refine bz_icmp_lt (tgt := 19) (pc := 9) dX11_text_9 rfl (fun c => ?_) (fun c => ?_)
  · have hP4 := hP3.1 c
    clear hP3
    refine bz_aload_n (pc := 19) dX11_text_19 rfl rfl ?_
    refine bz_rw_rR (pc := 20) dX11_text_20 fl_X11_26 hP4 (fun r_4 hP5 => ?_)
    clear hP4
    obtain ⟨a_7, rfl, hP6⟩ := hP5
    refine bz_kIV (as := []) (st := []) (ci := 6) (n := 0) (mc := 0) (ms := 0) (bc := (bc + 2)) (bs := (bs + 81)) (yc := kX6_readAll) (q := (RX6, TX6, 8)) (b := a_7) (pc := 23) dX11_text_23 sc_X6_readAll ml_X11_250 im_X6_readAll se_X6_readAll rfl rfl rfl (Nat.le_of_ble_eq_true rfl) hP6 (fun x_5 h_6 hP7 => ?_)
    clear hP6
    refine bz_s_istore_n (pc := 26) dX11_text_26 rfl (Nat.le_of_ble_eq_true rfl) [some (.inr (some a0)), some (.inl x_5)] rfl ?_
    refine bz_aload_n (pc := 27) dX11_text_27 rfl rfl ?_
    refine bz_rw_rR (pc := 28) dX11_text_28 fl_X11_26 hP7 (fun r_8 hP8 => ?_)
    clear hP7
    refine bz_iconst (pc := 31) dX11_text_31 ci_0 ?_
    obtain ⟨a_9, rfl, hP9⟩ := hP8
    refine bz_rw_wI (pc := 32) dX11_text_32 fl_X11_240 (fun q h9 => by cases h9; rfl) rfl hP9 (fun h_10 hP10 => ?_)
    clear hP9
    refine bz_iload_n (pc := 35) dX11_text_35 rfl rfl ?_
    refine bz_iconst (pc := 36) dX11_text_36 ci_m1 ?_
    refine bz_icmp_eq (tgt := 44) (pc := 37) dX11_text_37 rfl (fun c => ?_) (fun c => ?_)
    · have hP11 := hP10.1 c
      clear hP10
      refine bz_aload_n (pc := 44) dX11_text_44 rfl rfl ?_
      refine bz_rw_rR (pc := 45) dX11_text_45 fl_X11_12 hP11 (fun r_11 hP12 => ?_)
      clear hP11
      refine bz_rw_new (ci := 7) (q := (RX7, TX7, 1)) (n := 1) (bc := (bc + 1)) (bs := (bs + 80)) (pc := 48) dX11_text_48 rfl cl_X11_254 it_7 ii_7 rfl (df_7 G) hP12 (fun a_12 h_13 hP13 => ?_)
      clear hP12
      refine bz_dup (pc := 51) dX11_text_51 ?_
      refine bz_aload_n (pc := 52) dX11_text_52 rfl rfl ?_
      refine bz_rw_rR (pc := 53) dX11_text_53 fl_X11_26 hP13 (fun r_14 hP14 => ?_)
      clear hP13
      obtain ⟨a_15, rfl, hP15⟩ := hP14
      refine bz_rw_rR (pc := 56) dX11_text_56 fl_X11_256 hP15 (fun r_16 hP16 => ?_)
      clear hP15
      refine bz_aload_n (pc := 59) dX11_text_59 rfl rfl ?_
      refine bz_rw_rR (pc := 60) dX11_text_60 fl_X11_26 hP16 (fun r_17 hP17 => ?_)
      clear hP16
      obtain ⟨a_18, rfl, hP18⟩ := hP17
      refine bz_rw_rI (pc := 63) dX11_text_63 fl_X11_259 hP18 (fun x_19 hP19 => ?_)
      clear hP18
      refine bz_kRS (as := [.inr r_16, .inl x_19]) (st := [.inr (some a_12), .inr (some a_12), .inr r_11]) (n := 2) (mc := 1) (ms := 80) (bc := bc) (bs := bs) (yc := kJ7_copyOf_59c91) (pc := 66) dX11_text_66 sc_J7_copyOf_59c91 ml_X11_262 ss_J7_copyOf_59c91 rfl (Nat.le_of_ble_eq_true rfl) hP19 (fun r_20 h_21 hP20 => ?_)
      clear hP19
      refine bz_kVI (as := [.inr r_20]) (st := [.inr (some a_12), .inr r_11]) (n := 1) (mc := 0) (ms := 0) (bc := bc) (bs := bs) (yc := kX7_init) (b := a_12) (pc := 69) dX11_text_69 sc_X7_init rfl ml_X11_268 im_X7_init rfl rfl (Nat.le_of_ble_eq_true rfl) hP20 (fun h_23 hP21 => ?_)
      clear hP20
      obtain ⟨a_26, rfl, hP22⟩ := hP21
      refine bz_kVV (as := [.inr (some a_12)]) (st := []) (ci := 10) (n := 1) (mc := 0) (ms := 0) (bc := bc) (bs := bs) (yc := kX10_addText) (q := (RX10, TX10, 16)) (b := a_26) (pc := 72) dX11_text_72 sc_X10_addText ml_X11_271 im_X10_addText se_X10_addText rfl rfl rfl (Nat.le_of_ble_eq_true rfl) hP22 (fun h_25 hP23 => ?_)
      clear hP22
      refine bz_aload_n (pc := 75) dX11_text_75 rfl rfl ?_
      refine bz_rw_rR (pc := 76) dX11_text_76 fl_X11_12 hP23 (fun r_27 hP24 => ?_)
      clear hP23
      obtain ⟨a_28, rfl, hP25⟩ := hP24
      refine bz_rw_rI (pc := 79) dX11_text_79 fl_X11_247 hP25 (fun x_29 hP26 => ?_)
      clear hP25
      refine bz_iconst (pc := 82) dX11_text_82 ci_1 ?_
      refine bz_isub (pc := 83) dX11_text_83 ?_
      exact bz_retI (pc := 84) dX11_text_84 rfl rfl hP26
    · have hP27 := hP10.2 c
      clear hP10
      refine bz_iconst (pc := 40) dX11_text_40 ci_m1 ?_
      refine bz_iload_n (pc := 41) dX11_text_41 rfl rfl ?_
      refine bz_isub (pc := 42) dX11_text_42 ?_
      exact bz_retI (pc := 43) dX11_text_43 rfl rfl hP27
  · have hP28 := hP3.2 c
    clear hP3
    refine bz_aload_n (pc := 12) dX11_text_12 rfl rfl ?_
    refine bz_ldc (pc := 13) dX11_text_13 ct_X11_118 ?_
    refine bz_kIV (as := [.inl (-1000002)]) (st := []) (ci := 11) (n := 1) (mc := 0) (ms := 0) (bc := (bc + 2)) (bs := (bs + 81)) (yc := kX11_finding) (q := (RX11, TX11, 9)) (b := a0) (pc := 15) dX11_text_15 sc_X11_finding ml_X11_79 im_X11_finding se_X11_finding rfl rfl rfl (Nat.le_of_ble_eq_true rfl) hP28 (fun x_30 h_31 hP29 => ?_)
    clear hP28
    exact bz_retI (pc := 18) dX11_text_18 rfl rfl hP29
theorem m_X11_text {G : bz_G} {l : Launch} {d mc ms : Nat} {F : Option bz_V → bz_H → Prop} (a0 : Nat) (h : bz_H) (hP : w_X11_text_0 G l d F a0 h) : bz_Call G l (d + 1) kX11_text [.inr (some a0)] h (mc + 2) (ms + 81) F :=
  bz_body (by decide) (Nat.le_of_ble_eq_true rfl) (fun κ hl => g_X11_text_0 hl a0 h hP)
def w_X6_advance_0 (G : bz_G) (κ : bz_K) (l : Launch) (d : Nat) (F : Option bz_V → bz_H → Prop) (bc bs : Nat) (a0 : Nat) (h : bz_H) : Prop := bz_rI h a0 6 6 (fun x_1 => bz_rI h a0 6 1 (fun x_2 => (x_2 ≤ x_1 → bz_rI h a0 6 6 (fun x_3 => bz_wI h a0 6 5 x_3 (fun h_4 => bz_rI h_4 a0 6 6 (fun x_5 => bz_rI h_4 a0 6 1 (fun x_6 => (x_5 < x_6 → bz_rR h_4 a0 6 0 (fun r_7 => bz_rI h_4 a0 6 6 (fun x_8 => bz_nn r_7 (fun a_9 => bz_rA h_4 a_9 x_8 (fun x_10 => (x_10 < 48 → bz_J G κ kX6_advance (d + 1) F bc bs 90 [some (.inr (some a0)), some (.inl x_10), none] [] h_4) ∧ (¬ (x_10 < 48) → (57 < x_10 → bz_J G κ kX6_advance (d + 1) F bc bs 90 [some (.inr (some a0)), some (.inl x_10), none] [] h_4) ∧ (¬ (57 < x_10) → bz_rc h_4 a0 6 (bz_cV G l d kX6_takeNumber [.inr (some a0)] h_4 0 0 (fun h_12 => F none h_12))))))))) ∧ (¬ (x_5 < x_6) → bz_wI h_4 a0 6 4 0 (fun h_13 => F none h_13))))))) ∧ (¬ (x_2 ≤ x_1) → bz_rR h a0 6 0 (fun r_14 => bz_rI h a0 6 6 (fun x_15 => bz_nn r_14 (fun a_16 => bz_rA h a_16 x_15 (fun x_17 => (¬ x_17 = 32 → bz_rI h a0 6 6 (fun x_18 => bz_wI h a0 6 5 x_18 (fun h_19 => bz_rI h_19 a0 6 6 (fun x_20 => bz_rI h_19 a0 6 1 (fun x_21 => (x_20 < x_21 → bz_rR h_19 a0 6 0 (fun r_22 => bz_rI h_19 a0 6 6 (fun x_23 => bz_nn r_22 (fun a_24 => bz_rA h_19 a_24 x_23 (fun x_25 => (x_25 < 48 → bz_J G κ kX6_advance (d + 1) F bc bs 90 [some (.inr (some a0)), some (.inl x_25), none] [] h_19) ∧ (¬ (x_25 < 48) → (57 < x_25 → bz_J G κ kX6_advance (d + 1) F bc bs 90 [some (.inr (some a0)), some (.inl x_25), none] [] h_19) ∧ (¬ (57 < x_25) → bz_rc h_19 a0 6 (bz_cV G l d kX6_takeNumber [.inr (some a0)] h_19 0 0 (fun h_27 => F none h_27))))))))) ∧ (¬ (x_20 < x_21) → bz_wI h_19 a0 6 4 0 (fun h_28 => F none h_28))))))) ∧ (x_17 = 32 → bz_rI h a0 6 6 (fun x_29 => bz_wI h a0 6 6 (x_29 + 1) (fun h_30 => bz_J G κ kX6_advance (d + 1) F bc bs 0 [some (.inr (some a0)), none, none] [] h_30))))))))))
set_option maxRecDepth 20000 in
set_option maxHeartbeats 4000000 in
theorem g_X6_advance_0 {G : bz_G} {κ : bz_K} {l : Launch} {d : Nat} {F : Option bz_V → bz_H → Prop} {bc bs : Nat} (hl : κ.2.1 = l) (a0 : Nat) (h : bz_H) (hP0 : w_X6_advance_0 G κ l d F bc bs a0 h) : bz_J G κ kX6_advance (d + 1) F bc bs 0 [some (.inr (some a0)), none, none] [] h := by
  subst hl
  unfold w_X6_advance_0 at hP0
  refine bz_aload_n (pc := 0) dX6_advance_0 rfl rfl ?_
  refine bz_rw_rI (pc := 1) dX6_advance_1 fl_X6_25 hP0 (fun x_1 hP1 => ?_)
  clear hP0
  refine bz_aload_n (pc := 4) dX6_advance_4 rfl rfl ?_
  refine bz_rw_rI (pc := 5) dX6_advance_5 fl_X6_18 hP1 (fun x_2 hP2 => ?_)
  clear hP1
  refine bz_icmp_ge (tgt := 38) (pc := 8) dX6_advance_8 rfl (fun c => ?_) (fun c => ?_)
  · have hP3 := hP2.1 c
    clear hP2
    refine bz_aload_n (pc := 38) dX6_advance_38 rfl rfl ?_
    refine bz_aload_n (pc := 39) dX6_advance_39 rfl rfl ?_
    refine bz_rw_rI (pc := 40) dX6_advance_40 fl_X6_25 hP3 (fun x_3 hP4 => ?_)
    clear hP3
    refine bz_rw_wI (pc := 43) dX6_advance_43 fl_X6_38 (fun q h9 => by cases h9; rfl) rfl hP4 (fun h_4 hP5 => ?_)
    clear hP4
    refine bz_aload_n (pc := 46) dX6_advance_46 rfl rfl ?_
    refine bz_rw_rI (pc := 47) dX6_advance_47 fl_X6_25 hP5 (fun x_5 hP6 => ?_)
    clear hP5
    refine bz_aload_n (pc := 50) dX6_advance_50 rfl rfl ?_
    refine bz_rw_rI (pc := 51) dX6_advance_51 fl_X6_18 hP6 (fun x_6 hP7 => ?_)
    clear hP6
    refine bz_icmp_lt (tgt := 63) (pc := 54) dX6_advance_54 rfl (fun c => ?_) (fun c => ?_)
    · have hP8 := hP7.1 c
      clear hP7
      refine bz_aload_n (pc := 63) dX6_advance_63 rfl rfl ?_
      refine bz_rw_rR (pc := 64) dX6_advance_64 fl_X6_9 hP8 (fun r_7 hP9 => ?_)
      clear hP8
      refine bz_aload_n (pc := 67) dX6_advance_67 rfl rfl ?_
      refine bz_rw_rI (pc := 68) dX6_advance_68 fl_X6_25 hP9 (fun x_8 hP10 => ?_)
      clear hP9
      obtain ⟨a_9, rfl, hP11⟩ := hP10
      refine bz_rw_rA (pc := 71) dX6_advance_71 hP11 (fun x_10 hP12 => ?_)
      clear hP11
      refine bz_s_istore_n (pc := 72) dX6_advance_72 rfl (Nat.le_of_ble_eq_true rfl) [some (.inr (some a0)), some (.inl x_10), none] rfl ?_
      refine bz_iload_n (pc := 73) dX6_advance_73 rfl rfl ?_
      refine bz_bipush (pc := 74) dX6_advance_74 cb_48 ?_
      refine bz_icmp_lt (tgt := 90) (pc := 76) dX6_advance_76 rfl (fun c => ?_) (fun c => ?_)
      · have hP13 := hP12.1 c
        clear hP12
        exact hP13
      · have hP14 := hP12.2 c
        clear hP12
        refine bz_iload_n (pc := 79) dX6_advance_79 rfl rfl ?_
        refine bz_bipush (pc := 80) dX6_advance_80 cb_57 ?_
        refine bz_icmp_gt (tgt := 90) (pc := 82) dX6_advance_82 rfl (fun c => ?_) (fun c => ?_)
        · have hP15 := hP14.1 c
          clear hP14
          exact hP15
        · have hP16 := hP14.2 c
          clear hP14
          refine bz_aload_n (pc := 85) dX6_advance_85 rfl rfl ?_
          refine bz_kVV (as := []) (st := []) (ci := 6) (n := 0) (mc := 0) (ms := 0) (bc := bc) (bs := bs) (yc := kX6_takeNumber) (q := (RX6, TX6, 8)) (b := a0) (pc := 86) dX6_advance_86 sc_X6_takeNumber ml_X6_56 im_X6_takeNumber se_X6_takeNumber rfl rfl rfl (Nat.le_of_ble_eq_true rfl) hP16 (fun h_12 hP17 => ?_)
          clear hP16
          exact bz_retV (pc := 89) dX6_advance_89 rfl hP17
    · have hP18 := hP7.2 c
      clear hP7
      refine bz_aload_n (pc := 57) dX6_advance_57 rfl rfl ?_
      refine bz_iconst (pc := 58) dX6_advance_58 ci_0 ?_
      refine bz_rw_wI (pc := 59) dX6_advance_59 fl_X6_35 (fun q h9 => by cases h9; rfl) rfl hP18 (fun h_13 hP19 => ?_)
      clear hP18
      exact bz_retV (pc := 62) dX6_advance_62 rfl hP19
  · have hP20 := hP2.2 c
    clear hP2
    refine bz_aload_n (pc := 11) dX6_advance_11 rfl rfl ?_
    refine bz_rw_rR (pc := 12) dX6_advance_12 fl_X6_9 hP20 (fun r_14 hP21 => ?_)
    clear hP20
    refine bz_aload_n (pc := 15) dX6_advance_15 rfl rfl ?_
    refine bz_rw_rI (pc := 16) dX6_advance_16 fl_X6_25 hP21 (fun x_15 hP22 => ?_)
    clear hP21
    obtain ⟨a_16, rfl, hP23⟩ := hP22
    refine bz_rw_rA (pc := 19) dX6_advance_19 hP23 (fun x_17 hP24 => ?_)
    clear hP23
    refine bz_bipush (pc := 20) dX6_advance_20 cb_32 ?_
    refine bz_icmp_ne (tgt := 38) (pc := 22) dX6_advance_22 rfl (fun c => ?_) (fun c => ?_)
    · have hP25 := hP24.1 c
      clear hP24
      refine bz_aload_n (pc := 38) dX6_advance_38 rfl rfl ?_
      refine bz_aload_n (pc := 39) dX6_advance_39 rfl rfl ?_
      refine bz_rw_rI (pc := 40) dX6_advance_40 fl_X6_25 hP25 (fun x_18 hP26 => ?_)
      clear hP25
      refine bz_rw_wI (pc := 43) dX6_advance_43 fl_X6_38 (fun q h9 => by cases h9; rfl) rfl hP26 (fun h_19 hP27 => ?_)
      clear hP26
      refine bz_aload_n (pc := 46) dX6_advance_46 rfl rfl ?_
      refine bz_rw_rI (pc := 47) dX6_advance_47 fl_X6_25 hP27 (fun x_20 hP28 => ?_)
      clear hP27
      refine bz_aload_n (pc := 50) dX6_advance_50 rfl rfl ?_
      refine bz_rw_rI (pc := 51) dX6_advance_51 fl_X6_18 hP28 (fun x_21 hP29 => ?_)
      clear hP28
      refine bz_icmp_lt (tgt := 63) (pc := 54) dX6_advance_54 rfl (fun c => ?_) (fun c => ?_)
      · have hP30 := hP29.1 c
        clear hP29
        refine bz_aload_n (pc := 63) dX6_advance_63 rfl rfl ?_
        refine bz_rw_rR (pc := 64) dX6_advance_64 fl_X6_9 hP30 (fun r_22 hP31 => ?_)
        clear hP30
        refine bz_aload_n (pc := 67) dX6_advance_67 rfl rfl ?_
        refine bz_rw_rI (pc := 68) dX6_advance_68 fl_X6_25 hP31 (fun x_23 hP32 => ?_)
        clear hP31
        obtain ⟨a_24, rfl, hP33⟩ := hP32
        refine bz_rw_rA (pc := 71) dX6_advance_71 hP33 (fun x_25 hP34 => ?_)
        clear hP33
        refine bz_s_istore_n (pc := 72) dX6_advance_72 rfl (Nat.le_of_ble_eq_true rfl) [some (.inr (some a0)), some (.inl x_25), none] rfl ?_
        refine bz_iload_n (pc := 73) dX6_advance_73 rfl rfl ?_
        refine bz_bipush (pc := 74) dX6_advance_74 cb_48 ?_
        refine bz_icmp_lt (tgt := 90) (pc := 76) dX6_advance_76 rfl (fun c => ?_) (fun c => ?_)
        · have hP35 := hP34.1 c
          clear hP34
          exact hP35
        · have hP36 := hP34.2 c
          clear hP34
          refine bz_iload_n (pc := 79) dX6_advance_79 rfl rfl ?_
          refine bz_bipush (pc := 80) dX6_advance_80 cb_57 ?_
          refine bz_icmp_gt (tgt := 90) (pc := 82) dX6_advance_82 rfl (fun c => ?_) (fun c => ?_)
          · have hP37 := hP36.1 c
            clear hP36
            exact hP37
          · have hP38 := hP36.2 c
            clear hP36
            refine bz_aload_n (pc := 85) dX6_advance_85 rfl rfl ?_
            refine bz_kVV (as := []) (st := []) (ci := 6) (n := 0) (mc := 0) (ms := 0) (bc := bc) (bs := bs) (yc := kX6_takeNumber) (q := (RX6, TX6, 8)) (b := a0) (pc := 86) dX6_advance_86 sc_X6_takeNumber ml_X6_56 im_X6_takeNumber se_X6_takeNumber rfl rfl rfl (Nat.le_of_ble_eq_true rfl) hP38 (fun h_27 hP39 => ?_)
            clear hP38
            exact bz_retV (pc := 89) dX6_advance_89 rfl hP39
      · have hP40 := hP29.2 c
        clear hP29
        refine bz_aload_n (pc := 57) dX6_advance_57 rfl rfl ?_
        refine bz_iconst (pc := 58) dX6_advance_58 ci_0 ?_
        refine bz_rw_wI (pc := 59) dX6_advance_59 fl_X6_35 (fun q h9 => by cases h9; rfl) rfl hP40 (fun h_28 hP41 => ?_)
        clear hP40
        exact bz_retV (pc := 62) dX6_advance_62 rfl hP41
    · have hP42 := hP24.2 c
      clear hP24
      refine bz_aload_n (pc := 25) dX6_advance_25 rfl rfl ?_
      refine bz_dup (pc := 26) dX6_advance_26 ?_
      refine bz_rw_rI (pc := 27) dX6_advance_27 fl_X6_25 hP42 (fun x_29 hP43 => ?_)
      clear hP42
      refine bz_iconst (pc := 30) dX6_advance_30 ci_1 ?_
      refine bz_iadd (pc := 31) dX6_advance_31 ?_
      refine bz_rw_wI (pc := 32) dX6_advance_32 fl_X6_25 (fun q h9 => by cases h9; rfl) rfl hP43 (fun h_30 hP44 => ?_)
      clear hP43
      refine bz_goto (tgt := 0) (pc := 35) dX6_advance_35 rfl ?_
      exact hP44
def w_X6_advance_90 (G : bz_G) (l : Launch) (d : Nat) (F : Option bz_V → bz_H → Prop) (a0 : Nat) (x1 : Int32) (u2 : Option bz_V) (h : bz_H) : Prop := bz_rI h a0 6 6 (fun x_31 => bz_wI h a0 6 6 (x_31 + 1) (fun h_32 => bz_cI G l d kJ0_indexOf_0f7a4 [.inr (some 3), .inl ((x1.toUInt32 % 65536).toInt32)] h_32 0 0 (fun x_33 h_34 => (x_33 < 0 → bz_cI G l d kX6_isSign [.inl x1] h_34 0 0 (fun x_35 h_36 => bz_wI h_36 a0 6 4 (if x_35 = 0 then 1 else x1) (fun h_37 => F none h_37))) ∧ (¬ (x_33 < 0) → bz_wI h_34 a0 6 4 3 (fun h_38 => bz_wI h_38 a0 6 7 (10000 + x_33) (fun h_39 => F none h_39))))))
set_option maxRecDepth 20000 in
set_option maxHeartbeats 4000000 in
theorem g_X6_advance_90 {G : bz_G} {κ : bz_K} {l : Launch} {d : Nat} {F : Option bz_V → bz_H → Prop} {bc bs : Nat} (hl : κ.2.1 = l) (a0 : Nat) (x1 : Int32) (u2 : Option bz_V) (h : bz_H) (hP0 : w_X6_advance_90 G l d F a0 x1 u2 h) : bz_J G κ kX6_advance (d + 1) F bc bs 90 [some (.inr (some a0)), some (.inl x1), u2] [] h := by
  subst hl
  unfold w_X6_advance_90 at hP0
  refine bz_aload_n (pc := 90) dX6_advance_90 rfl rfl ?_
  refine bz_dup (pc := 91) dX6_advance_91 ?_
  refine bz_rw_rI (pc := 92) dX6_advance_92 fl_X6_25 hP0 (fun x_31 hP1 => ?_)
  clear hP0
  refine bz_iconst (pc := 95) dX6_advance_95 ci_1 ?_
  refine bz_iadd (pc := 96) dX6_advance_96 ?_
  refine bz_rw_wI (pc := 97) dX6_advance_97 fl_X6_25 (fun q h9 => by cases h9; rfl) rfl hP1 (fun h_32 hP2 => ?_)
  clear hP1
  refine bz_ldcS (pc := 100) dX6_advance_100 rfl ?_
  refine bz_iload_n (pc := 102) dX6_advance_102 rfl rfl ?_
  refine bz_i2c (pc := 103) dX6_advance_103 ?_
  refine bz_kIStr (as := [.inl ((x1.toUInt32 % 65536).toInt32)]) (st := []) (n := 1) (mc := 0) (ms := 0) (yc := kJ0_indexOf_0f7a4) (bc := bc) (bs := bs) (pc := 104) dX6_advance_104 sc_J0_indexOf_0f7a4 ml_X6_61 im_J0_indexOf_0f7a4 se_J0_indexOf_0f7a4 rfl rfl (Nat.le_of_ble_eq_true rfl) hP2 (fun x_33 h_34 hP3 => ?_)
  clear hP2
  refine bz_s_istore_n (pc := 107) dX6_advance_107 rfl (Nat.le_of_ble_eq_true rfl) [some (.inr (some a0)), some (.inl x1), some (.inl x_33)] rfl ?_
  refine bz_iload_n (pc := 108) dX6_advance_108 rfl rfl ?_
  refine bz_if_lt (tgt := 129) (pc := 109) dX6_advance_109 rfl (fun c => ?_) (fun c => ?_)
  · have hP4 := hP3.1 c
    clear hP3
    refine bz_aload_n (pc := 129) dX6_advance_129 rfl rfl ?_
    refine bz_iload_n (pc := 130) dX6_advance_130 rfl rfl ?_
    refine bz_kIS (as := [.inl x1]) (st := [.inr (some a0)]) (n := 1) (mc := 0) (ms := 0) (bc := bc) (bs := bs) (yc := kX6_isSign) (pc := 131) dX6_advance_131 sc_X6_isSign ml_X6_67 ss_X6_isSign rfl (Nat.le_of_ble_eq_true rfl) hP4 (fun x_35 h_36 hP5 => ?_)
    clear hP4
    have hJ : bz_J G κ kX6_advance (d + 1) F bc bs 142 [some (.inr (some a0)), some (.inl x1), some (.inl x_33)] [.inl (if x_35 = 0 then 1 else x1), .inr (some a0)] h_36 := by
      refine bz_rw_wI (pc := 142) dX6_advance_142 fl_X6_35 (fun q h9 => by cases h9; rfl) rfl hP5 (fun h_37 hP6 => ?_)
      clear hP5
      exact bz_retV (pc := 145) dX6_advance_145 rfl hP6
    refine bz_if_eq (tgt := 141) (pc := 134) dX6_advance_134 rfl (fun c => ?_) (fun c => ?_)
    · have e9 : ((if x_35 = 0 then 1 else x1) : Int32) = (1) := if_pos c
      rw [e9] at hJ
      refine bz_iconst (pc := 141) dX6_advance_141 ci_1 ?_
      exact hJ
    · have e9 : ((if x_35 = 0 then 1 else x1) : Int32) = (x1) := if_neg c
      rw [e9] at hJ
      refine bz_iload_n (pc := 137) dX6_advance_137 rfl rfl ?_
      refine bz_goto (tgt := 142) (pc := 138) dX6_advance_138 rfl ?_
      exact hJ
  · have hP7 := hP3.2 c
    clear hP3
    refine bz_aload_n (pc := 112) dX6_advance_112 rfl rfl ?_
    refine bz_iconst (pc := 113) dX6_advance_113 ci_3 ?_
    refine bz_rw_wI (pc := 114) dX6_advance_114 fl_X6_35 (fun q h9 => by cases h9; rfl) rfl hP7 (fun h_38 hP8 => ?_)
    clear hP7
    refine bz_aload_n (pc := 117) dX6_advance_117 rfl rfl ?_
    refine bz_sipush (pc := 118) dX6_advance_118 cs_10000 ?_
    refine bz_iload_n (pc := 121) dX6_advance_121 rfl rfl ?_
    refine bz_iadd (pc := 122) dX6_advance_122 ?_
    refine bz_rw_wI (pc := 123) dX6_advance_123 fl_X6_53 (fun q h9 => by cases h9; rfl) rfl hP8 (fun h_39 hP9 => ?_)
    clear hP8
    refine bz_goto (tgt := 145) (pc := 126) dX6_advance_126 rfl ?_
    exact bz_retV (pc := 145) dX6_advance_145 rfl hP9
theorem m_X6_advance {G : bz_G} {l : Launch} {d mc ms : Nat} {F : Option bz_V → bz_H → Prop} (a0 : Nat) (h : bz_H) (hP : ∀ κ : bz_K, κ.2.1 = l → w_X6_advance_0 G κ l d F mc ms a0 h) : bz_Call G l (d + 1) kX6_advance [.inr (some a0)] h mc ms F :=
  bz_body (by decide) (Nat.le_of_ble_eq_true rfl) (fun κ hl => g_X6_advance_0 hl a0 h (hP κ hl))

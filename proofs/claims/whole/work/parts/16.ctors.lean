def mX8_init : Md := (yX8_init, cX8_init, 1, none, { frames := 1, cells := 1, slots := 5, locals := 20 })
def mX6_init : Md := (yX6_init, cX6_init, 1, none, { frames := 1, cells := 1, slots := 400, locals := 20 })
def mX2_init : Md := (yX2_init, cX2_init, 4, none, { frames := 1, cells := 0, slots := 0, locals := 20 })
def mX5_init : Md := (yX5_init, cX5_init, 1, none, { frames := 1, cells := 0, slots := 0, locals := 20 })
def mX0_init : Md := (yX0_init, cX0_init, 5, none, { frames := 2, cells := 23, slots := 280, locals := 40 })
def mX4_init : Md := (yX4_init, cX4_init, 3, none, { frames := 1, cells := 6, slots := 600, locals := 20 })
def mX3_init : Md := (yX3_init, cX3_init, 3, none, { frames := 1, cells := 7, slots := 900, locals := 20 })
def mX1_init : Md := (yX1_init, cX1_init, 1, none, { frames := 1, cells := 2, slots := 16, locals := 20 })
def mX7_init : Md := (yX7_init, cX7_init, 1, none, { frames := 1, cells := 7, slots := 270, locals := 20 })
def mX10_init : Md := (yX10_init, cX10_init, 2, none, { frames := 1, cells := 2, slots := 16, locals := 20 })
def mX9_init : Md := (yX9_init, cX9_init, 3, none, { frames := 1, cells := 7, slots := 288, locals := 20 })
def mX11_init : Md := (yX11_init, cX11_init, 2, none, { frames := 3, cells := 78, slots := 5271, locals := 64 })
def mX12_init : Md := (yX12_init, cX12_init, 2, none, { frames := 1, cells := 42, slots := 4181, locals := 20 })
theorem FF_X8_9 : Ff "AirParted$Told" 9 8 0 1 := ⟨RX8, TX8, tyX8, .array .int, rfl, by decide, uwX8, rfl, rfl, W_32, tyX8_ok, nmX8, rfl, by decide +kernel, fun a => ⟨rfl, rfl⟩⟩
theorem FF_X6_9 : Ff "AirParted$Sheet" 9 6 0 4 := ⟨RX6, TX6, tyX6, .array .long, rfl, by decide, uwX6, rfl, rfl, W_50, tyX6_ok, nmX6, rfl, by decide +kernel, fun a => ⟨rfl, rfl⟩⟩
theorem FF_X2_9 : Ff "AirParted$Land" 9 2 0 5 := ⟨RX2, TX2, tyX2, .object "AirParted$Told", rfl, by decide, uwX2, rfl, rfl, W_78, tyX2_ok, nmX2, rfl, by decide +kernel, fun a => ⟨rfl, rfl⟩⟩
theorem FF_X2_15 : Ff "AirParted$Land" 15 2 1 5 := ⟨RX2, TX2, tyX2, .object "AirParted$Sheet", rfl, by decide, uwX2, rfl, rfl, W_79, tyX2_ok, nmX2, rfl, by decide +kernel, fun a => ⟨rfl, rfl⟩⟩
theorem FF_X2_19 : Ff "AirParted$Land" 19 2 2 5 := ⟨RX2, TX2, tyX2, .object "AirParted$Sheet", rfl, by decide, uwX2, rfl, rfl, W_80, tyX2_ok, nmX2, rfl, by decide +kernel, fun a => ⟨rfl, rfl⟩⟩
theorem FF_X0_9 : Ff "AirParted$Air" 9 0 0 9 := ⟨RX0, TX0, tyX0, .object "AirParted$Told", rfl, by decide, uwX0, rfl, rfl, W_167, tyX0_ok, nmX0, rfl, by decide +kernel, fun a => ⟨rfl, rfl⟩⟩
theorem FF_X0_15 : Ff "AirParted$Air" 15 0 1 9 := ⟨RX0, TX0, tyX0, .object "AirParted$Land", rfl, by decide, uwX0, rfl, rfl, W_168, tyX0_ok, nmX0, rfl, by decide +kernel, fun a => ⟨rfl, rfl⟩⟩
theorem FF_X0_19 : Ff "AirParted$Air" 19 0 2 9 := ⟨RX0, TX0, tyX0, .array (.object "AirParted$Sheet"), rfl, by decide, uwX0, rfl, rfl, W_169, tyX0_ok, nmX0, rfl, by decide +kernel, fun a => ⟨rfl, rfl⟩⟩
theorem FF_X0_25 : Ff "AirParted$Air" 25 0 3 9 := ⟨RX0, TX0, tyX0, .array (.object "AirParted$Sender"), rfl, by decide, uwX0, rfl, rfl, W_170, tyX0_ok, nmX0, rfl, by decide +kernel, fun a => ⟨rfl, rfl⟩⟩
theorem FF_X0_30 : Ff "AirParted$Air" 30 0 4 9 := ⟨RX0, TX0, tyX0, .array .int, rfl, by decide, uwX0, rfl, rfl, W_174, tyX0_ok, nmX0, rfl, by decide +kernel, fun a => ⟨rfl, rfl⟩⟩
theorem FF_X0_34 : Ff "AirParted$Air" 34 0 5 9 := ⟨RX0, TX0, tyX0, .array .int, rfl, by decide, uwX0, rfl, rfl, W_175, tyX0_ok, nmX0, rfl, by decide +kernel, fun a => ⟨rfl, rfl⟩⟩
theorem FF_X4_9 : Ff "AirParted$Parting" 9 4 0 9 := ⟨RX4, TX4, tyX4, .object "AirParted$Told", rfl, by decide, uwX4, rfl, rfl, W_208, tyX4_ok, nmX4, rfl, by decide +kernel, fun a => ⟨rfl, rfl⟩⟩
theorem FF_X4_15 : Ff "AirParted$Parting" 15 4 1 9 := ⟨RX4, TX4, tyX4, .object "AirParted$Air", rfl, by decide, uwX4, rfl, rfl, W_209, tyX4_ok, nmX4, rfl, by decide +kernel, fun a => ⟨rfl, rfl⟩⟩
theorem FF_X4_19 : Ff "AirParted$Parting" 19 4 2 9 := ⟨RX4, TX4, tyX4, .array .int, rfl, by decide, uwX4, rfl, rfl, W_210, tyX4_ok, nmX4, rfl, by decide +kernel, fun a => ⟨rfl, rfl⟩⟩
theorem FF_X4_23 : Ff "AirParted$Parting" 23 4 3 9 := ⟨RX4, TX4, tyX4, .array .int, rfl, by decide, uwX4, rfl, rfl, W_212, tyX4_ok, nmX4, rfl, by decide +kernel, fun a => ⟨rfl, rfl⟩⟩
theorem FF_X4_26 : Ff "AirParted$Parting" 26 4 4 9 := ⟨RX4, TX4, tyX4, .array .boolean, rfl, by decide, uwX4, rfl, rfl, W_213, tyX4_ok, nmX4, rfl, by decide +kernel, fun a => ⟨rfl, rfl⟩⟩
theorem FF_X4_30 : Ff "AirParted$Parting" 30 4 5 9 := ⟨RX4, TX4, tyX4, .array .int, rfl, by decide, uwX4, rfl, rfl, W_215, tyX4_ok, nmX4, rfl, by decide +kernel, fun a => ⟨rfl, rfl⟩⟩
theorem FF_X4_33 : Ff "AirParted$Parting" 33 4 6 9 := ⟨RX4, TX4, tyX4, .array .int, rfl, by decide, uwX4, rfl, rfl, W_216, tyX4_ok, nmX4, rfl, by decide +kernel, fun a => ⟨rfl, rfl⟩⟩
theorem FF_X4_36 : Ff "AirParted$Parting" 36 4 7 9 := ⟨RX4, TX4, tyX4, .array .int, rfl, by decide, uwX4, rfl, rfl, W_217, tyX4_ok, nmX4, rfl, by decide +kernel, fun a => ⟨rfl, rfl⟩⟩
theorem FF_X3_7 : Ff "AirParted$Listening" 7 3 0 10 := ⟨RX3, TX3, tyX3, .object "AirParted$Told", rfl, by decide, uwX3, rfl, rfl, W_247, tyX3_ok, nmX3, rfl, by decide +kernel, fun a => ⟨rfl, rfl⟩⟩
theorem FF_X3_13 : Ff "AirParted$Listening" 13 3 1 10 := ⟨RX3, TX3, tyX3, .object "AirParted$Air", rfl, by decide, uwX3, rfl, rfl, W_248, tyX3_ok, nmX3, rfl, by decide +kernel, fun a => ⟨rfl, rfl⟩⟩
theorem FF_X3_19 : Ff "AirParted$Listening" 19 3 2 10 := ⟨RX3, TX3, tyX3, .array .int, rfl, by decide, uwX3, rfl, rfl, W_249, tyX3_ok, nmX3, rfl, by decide +kernel, fun a => ⟨rfl, rfl⟩⟩
theorem FF_X3_23 : Ff "AirParted$Listening" 23 3 3 10 := ⟨RX3, TX3, tyX3, .array .int, rfl, by decide, uwX3, rfl, rfl, W_250, tyX3_ok, nmX3, rfl, by decide +kernel, fun a => ⟨rfl, rfl⟩⟩
theorem FF_X3_26 : Ff "AirParted$Listening" 26 3 4 10 := ⟨RX3, TX3, tyX3, .array .int, rfl, by decide, uwX3, rfl, rfl, W_251, tyX3_ok, nmX3, rfl, by decide +kernel, fun a => ⟨rfl, rfl⟩⟩
theorem FF_X3_29 : Ff "AirParted$Listening" 29 3 5 10 := ⟨RX3, TX3, tyX3, .array .int, rfl, by decide, uwX3, rfl, rfl, W_252, tyX3_ok, nmX3, rfl, by decide +kernel, fun a => ⟨rfl, rfl⟩⟩
theorem FF_X3_32 : Ff "AirParted$Listening" 32 3 6 10 := ⟨RX3, TX3, tyX3, .array .int, rfl, by decide, uwX3, rfl, rfl, W_253, tyX3_ok, nmX3, rfl, by decide +kernel, fun a => ⟨rfl, rfl⟩⟩
theorem FF_X3_35 : Ff "AirParted$Listening" 35 3 7 10 := ⟨RX3, TX3, tyX3, .array .int, rfl, by decide, uwX3, rfl, rfl, W_255, tyX3_ok, nmX3, rfl, by decide +kernel, fun a => ⟨rfl, rfl⟩⟩
theorem FF_X3_38 : Ff "AirParted$Listening" 38 3 8 10 := ⟨RX3, TX3, tyX3, .array .int, rfl, by decide, uwX3, rfl, rfl, W_257, tyX3_ok, nmX3, rfl, by decide +kernel, fun a => ⟨rfl, rfl⟩⟩
theorem FF_X1_9 : Ff "AirParted$Auction" 9 1 0 3 := ⟨RX1, TX1, tyX1, .array .int, rfl, by decide, uwX1, rfl, rfl, W_288, tyX1_ok, nmX1, rfl, by decide +kernel, fun a => ⟨rfl, rfl⟩⟩
theorem FF_X1_13 : Ff "AirParted$Auction" 13 1 1 3 := ⟨RX1, TX1, tyX1, .array .int, rfl, by decide, uwX1, rfl, rfl, W_289, tyX1_ok, nmX1, rfl, by decide +kernel, fun a => ⟨rfl, rfl⟩⟩
theorem FF_X7_11 : Ff "AirParted$Texts" 11 7 0 11 := ⟨RX7, TX7, tyX7, .array .int, rfl, by decide, uwX7, rfl, rfl, W_305, tyX7_ok, nmX7, rfl, by decide +kernel, fun a => ⟨rfl, rfl⟩⟩
theorem FF_X7_15 : Ff "AirParted$Texts" 15 7 1 11 := ⟨RX7, TX7, tyX7, .array .boolean, rfl, by decide, uwX7, rfl, rfl, W_306, tyX7_ok, nmX7, rfl, by decide +kernel, fun a => ⟨rfl, rfl⟩⟩
theorem FF_X7_19 : Ff "AirParted$Texts" 19 7 2 11 := ⟨RX7, TX7, tyX7, .array .int, rfl, by decide, uwX7, rfl, rfl, W_308, tyX7_ok, nmX7, rfl, by decide +kernel, fun a => ⟨rfl, rfl⟩⟩
theorem FF_X7_22 : Ff "AirParted$Texts" 22 7 3 11 := ⟨RX7, TX7, tyX7, .array .int, rfl, by decide, uwX7, rfl, rfl, W_309, tyX7_ok, nmX7, rfl, by decide +kernel, fun a => ⟨rfl, rfl⟩⟩
theorem FF_X7_25 : Ff "AirParted$Texts" 25 7 4 11 := ⟨RX7, TX7, tyX7, .array .int, rfl, by decide, uwX7, rfl, rfl, W_310, tyX7_ok, nmX7, rfl, by decide +kernel, fun a => ⟨rfl, rfl⟩⟩
theorem FF_X7_28 : Ff "AirParted$Texts" 28 7 5 11 := ⟨RX7, TX7, tyX7, .array .int, rfl, by decide, uwX7, rfl, rfl, W_311, tyX7_ok, nmX7, rfl, by decide +kernel, fun a => ⟨rfl, rfl⟩⟩
theorem FF_X7_31 : Ff "AirParted$Texts" 31 7 6 11 := ⟨RX7, TX7, tyX7, .array .int, rfl, by decide, uwX7, rfl, rfl, W_312, tyX7_ok, nmX7, rfl, by decide +kernel, fun a => ⟨rfl, rfl⟩⟩
theorem FF_X10_9 : Ff "AirParted$Watch" 9 10 0 4 := ⟨RX10, TX10, tyX10, .object "AirParted$Land", rfl, by decide, uwX10, rfl, rfl, W_348, tyX10_ok, nmX10, rfl, by decide +kernel, fun a => ⟨rfl, rfl⟩⟩
theorem FF_X10_15 : Ff "AirParted$Watch" 15 10 1 4 := ⟨RX10, TX10, tyX10, .array .int, rfl, by decide, uwX10, rfl, rfl, W_349, tyX10_ok, nmX10, rfl, by decide +kernel, fun a => ⟨rfl, rfl⟩⟩
theorem FF_X10_19 : Ff "AirParted$Watch" 19 10 2 4 := ⟨RX10, TX10, tyX10, .array .int, rfl, by decide, uwX10, rfl, rfl, W_351, tyX10_ok, nmX10, rfl, by decide +kernel, fun a => ⟨rfl, rfl⟩⟩
theorem FF_X9_9 : Ff "AirParted$Towers" 9 9 0 14 := ⟨RX9, TX9, tyX9, .object "AirParted$Told", rfl, by decide, uwX9, rfl, rfl, W_370, tyX9_ok, nmX9, rfl, by decide +kernel, fun a => ⟨rfl, rfl⟩⟩
theorem FF_X9_13 : Ff "AirParted$Towers" 13 9 1 14 := ⟨RX9, TX9, tyX9, .object "AirParted$Land", rfl, by decide, uwX9, rfl, rfl, W_371, tyX9_ok, nmX9, rfl, by decide +kernel, fun a => ⟨rfl, rfl⟩⟩
theorem FF_X9_17 : Ff "AirParted$Towers" 17 9 2 14 := ⟨RX9, TX9, tyX9, .array .int, rfl, by decide, uwX9, rfl, rfl, W_372, tyX9_ok, nmX9, rfl, by decide +kernel, fun a => ⟨rfl, rfl⟩⟩
theorem FF_X9_21 : Ff "AirParted$Towers" 21 9 3 14 := ⟨RX9, TX9, tyX9, .array .int, rfl, by decide, uwX9, rfl, rfl, W_373, tyX9_ok, nmX9, rfl, by decide +kernel, fun a => ⟨rfl, rfl⟩⟩
theorem FF_X9_24 : Ff "AirParted$Towers" 24 9 4 14 := ⟨RX9, TX9, tyX9, .array .int, rfl, by decide, uwX9, rfl, rfl, W_374, tyX9_ok, nmX9, rfl, by decide +kernel, fun a => ⟨rfl, rfl⟩⟩
theorem FF_X9_27 : Ff "AirParted$Towers" 27 9 5 14 := ⟨RX9, TX9, tyX9, .array .int, rfl, by decide, uwX9, rfl, rfl, W_375, tyX9_ok, nmX9, rfl, by decide +kernel, fun a => ⟨rfl, rfl⟩⟩
theorem FF_X9_30 : Ff "AirParted$Towers" 30 9 6 14 := ⟨RX9, TX9, tyX9, .array .int, rfl, by decide, uwX9, rfl, rfl, W_376, tyX9_ok, nmX9, rfl, by decide +kernel, fun a => ⟨rfl, rfl⟩⟩
theorem FF_X9_33 : Ff "AirParted$Towers" 33 9 7 14 := ⟨RX9, TX9, tyX9, .array .int, rfl, by decide, uwX9, rfl, rfl, W_377, tyX9_ok, nmX9, rfl, by decide +kernel, fun a => ⟨rfl, rfl⟩⟩
theorem FF_X9_36 : Ff "AirParted$Towers" 36 9 8 14 := ⟨RX9, TX9, tyX9, .array .int, rfl, by decide, uwX9, rfl, rfl, W_378, tyX9_ok, nmX9, rfl, by decide +kernel, fun a => ⟨rfl, rfl⟩⟩
theorem FF_X11_10 : Ff "AirParted" 10 11 0 12 := ⟨RX11, TX11, tyX11, .object "AirParted$Told", rfl, by decide, uwX11, rfl, rfl, W_418, tyX11_ok, nmX11, rfl, by decide +kernel, fun a => ⟨rfl, rfl⟩⟩
theorem FF_X11_18 : Ff "AirParted" 18 11 1 12 := ⟨RX11, TX11, tyX11, .array (.object "AirParted$Sheet"), rfl, by decide, uwX11, rfl, rfl, W_419, tyX11_ok, nmX11, rfl, by decide +kernel, fun a => ⟨rfl, rfl⟩⟩
theorem FF_X11_28 : Ff "AirParted" 28 11 2 12 := ⟨RX11, TX11, tyX11, .object "AirParted$Land", rfl, by decide, uwX11, rfl, rfl, W_420, tyX11_ok, nmX11, rfl, by decide +kernel, fun a => ⟨rfl, rfl⟩⟩
theorem FF_X11_37 : Ff "AirParted" 37 11 3 12 := ⟨RX11, TX11, tyX11, .object "AirParted$Air", rfl, by decide, uwX11, rfl, rfl, W_421, tyX11_ok, nmX11, rfl, by decide +kernel, fun a => ⟨rfl, rfl⟩⟩
theorem FF_X11_46 : Ff "AirParted" 46 11 4 12 := ⟨RX11, TX11, tyX11, .object "AirParted$Parting", rfl, by decide, uwX11, rfl, rfl, W_422, tyX11_ok, nmX11, rfl, by decide +kernel, fun a => ⟨rfl, rfl⟩⟩
theorem FF_X11_53 : Ff "AirParted" 53 11 5 12 := ⟨RX11, TX11, tyX11, .object "AirParted$Listening", rfl, by decide, uwX11, rfl, rfl, W_423, tyX11_ok, nmX11, rfl, by decide +kernel, fun a => ⟨rfl, rfl⟩⟩
theorem FF_X11_60 : Ff "AirParted" 60 11 6 12 := ⟨RX11, TX11, tyX11, .object "AirParted$Auction", rfl, by decide, uwX11, rfl, rfl, W_424, tyX11_ok, nmX11, rfl, by decide +kernel, fun a => ⟨rfl, rfl⟩⟩
theorem FF_X11_67 : Ff "AirParted" 67 11 7 12 := ⟨RX11, TX11, tyX11, .object "AirParted$Texts", rfl, by decide, uwX11, rfl, rfl, W_425, tyX11_ok, nmX11, rfl, by decide +kernel, fun a => ⟨rfl, rfl⟩⟩
theorem FF_X11_76 : Ff "AirParted" 76 11 8 12 := ⟨RX11, TX11, tyX11, .object "AirParted$Watch", rfl, by decide, uwX11, rfl, rfl, W_426, tyX11_ok, nmX11, rfl, by decide +kernel, fun a => ⟨rfl, rfl⟩⟩
theorem FF_X11_85 : Ff "AirParted" 85 11 9 12 := ⟨RX11, TX11, tyX11, .object "AirParted$Towers", rfl, by decide, uwX11, rfl, rfl, W_427, tyX11_ok, nmX11, rfl, by decide +kernel, fun a => ⟨rfl, rfl⟩⟩
theorem FF_X11_89 : Ff "AirParted" 89 11 10 12 := ⟨RX11, TX11, tyX11, .array .long, rfl, by decide, uwX11, rfl, rfl, W_428, tyX11_ok, nmX11, rfl, by decide +kernel, fun a => ⟨rfl, rfl⟩⟩
theorem FF_X12_7 : Ff "AirPartedModel" 7 12 0 58 := ⟨RX12, TX12, tyX12, .array .int, rfl, by decide, uwX12, rfl, rfl, W_1087, tyX12_ok, nmX12, rfl, by decide +kernel, fun a => ⟨rfl, rfl⟩⟩
theorem FF_X12_13 : Ff "AirPartedModel" 13 12 1 58 := ⟨RX12, TX12, tyX12, .array .int, rfl, by decide, uwX12, rfl, rfl, W_1088, tyX12_ok, nmX12, rfl, by decide +kernel, fun a => ⟨rfl, rfl⟩⟩
theorem FF_X12_16 : Ff "AirPartedModel" 16 12 2 58 := ⟨RX12, TX12, tyX12, .array .long, rfl, by decide, uwX12, rfl, rfl, W_1089, tyX12_ok, nmX12, rfl, by decide +kernel, fun a => ⟨rfl, rfl⟩⟩
theorem FF_X12_20 : Ff "AirPartedModel" 20 12 3 58 := ⟨RX12, TX12, tyX12, .array .long, rfl, by decide, uwX12, rfl, rfl, W_1090, tyX12_ok, nmX12, rfl, by decide +kernel, fun a => ⟨rfl, rfl⟩⟩
theorem FF_X12_30 : Ff "AirPartedModel" 30 12 7 58 := ⟨RX12, TX12, tyX12, .array .int, rfl, by decide, uwX12, rfl, rfl, W_1094, tyX12_ok, nmX12, rfl, by decide +kernel, fun a => ⟨rfl, rfl⟩⟩
theorem FF_X12_33 : Ff "AirPartedModel" 33 12 10 58 := ⟨RX12, TX12, tyX12, .array .int, rfl, by decide, uwX12, rfl, rfl, W_1097, tyX12_ok, nmX12, rfl, by decide +kernel, fun a => ⟨rfl, rfl⟩⟩
theorem FF_X12_36 : Ff "AirPartedModel" 36 12 11 58 := ⟨RX12, TX12, tyX12, .array .int, rfl, by decide, uwX12, rfl, rfl, W_1098, tyX12_ok, nmX12, rfl, by decide +kernel, fun a => ⟨rfl, rfl⟩⟩
theorem FF_X12_39 : Ff "AirPartedModel" 39 12 12 58 := ⟨RX12, TX12, tyX12, .array .int, rfl, by decide, uwX12, rfl, rfl, W_1099, tyX12_ok, nmX12, rfl, by decide +kernel, fun a => ⟨rfl, rfl⟩⟩
theorem FF_X12_42 : Ff "AirPartedModel" 42 12 13 58 := ⟨RX12, TX12, tyX12, .array .int, rfl, by decide, uwX12, rfl, rfl, W_1100, tyX12_ok, nmX12, rfl, by decide +kernel, fun a => ⟨rfl, rfl⟩⟩
theorem FF_X12_45 : Ff "AirPartedModel" 45 12 14 58 := ⟨RX12, TX12, tyX12, .array .int, rfl, by decide, uwX12, rfl, rfl, W_1101, tyX12_ok, nmX12, rfl, by decide +kernel, fun a => ⟨rfl, rfl⟩⟩
theorem FF_X12_48 : Ff "AirPartedModel" 48 12 15 58 := ⟨RX12, TX12, tyX12, .array .int, rfl, by decide, uwX12, rfl, rfl, W_1102, tyX12_ok, nmX12, rfl, by decide +kernel, fun a => ⟨rfl, rfl⟩⟩
theorem FF_X12_51 : Ff "AirPartedModel" 51 12 16 58 := ⟨RX12, TX12, tyX12, .array .int, rfl, by decide, uwX12, rfl, rfl, W_1103, tyX12_ok, nmX12, rfl, by decide +kernel, fun a => ⟨rfl, rfl⟩⟩
theorem FF_X12_54 : Ff "AirPartedModel" 54 12 17 58 := ⟨RX12, TX12, tyX12, .array .int, rfl, by decide, uwX12, rfl, rfl, W_1104, tyX12_ok, nmX12, rfl, by decide +kernel, fun a => ⟨rfl, rfl⟩⟩
theorem FF_X12_57 : Ff "AirPartedModel" 57 12 18 58 := ⟨RX12, TX12, tyX12, .array .int, rfl, by decide, uwX12, rfl, rfl, W_1105, tyX12_ok, nmX12, rfl, by decide +kernel, fun a => ⟨rfl, rfl⟩⟩
theorem FF_X12_60 : Ff "AirPartedModel" 60 12 19 58 := ⟨RX12, TX12, tyX12, .array .int, rfl, by decide, uwX12, rfl, rfl, W_1106, tyX12_ok, nmX12, rfl, by decide +kernel, fun a => ⟨rfl, rfl⟩⟩
theorem FF_X12_63 : Ff "AirPartedModel" 63 12 20 58 := ⟨RX12, TX12, tyX12, .array .boolean, rfl, by decide, uwX12, rfl, rfl, W_1107, tyX12_ok, nmX12, rfl, by decide +kernel, fun a => ⟨rfl, rfl⟩⟩
theorem FF_X12_67 : Ff "AirPartedModel" 67 12 21 58 := ⟨RX12, TX12, tyX12, .array .int, rfl, by decide, uwX12, rfl, rfl, W_1108, tyX12_ok, nmX12, rfl, by decide +kernel, fun a => ⟨rfl, rfl⟩⟩
theorem FF_X12_70 : Ff "AirPartedModel" 70 12 23 58 := ⟨RX12, TX12, tyX12, .array .boolean, rfl, by decide, uwX12, rfl, rfl, W_1110, tyX12_ok, nmX12, rfl, by decide +kernel, fun a => ⟨rfl, rfl⟩⟩
theorem FF_X12_73 : Ff "AirPartedModel" 73 12 24 58 := ⟨RX12, TX12, tyX12, .array .int, rfl, by decide, uwX12, rfl, rfl, W_1111, tyX12_ok, nmX12, rfl, by decide +kernel, fun a => ⟨rfl, rfl⟩⟩
theorem FF_X12_76 : Ff "AirPartedModel" 76 12 25 58 := ⟨RX12, TX12, tyX12, .array .int, rfl, by decide, uwX12, rfl, rfl, W_1112, tyX12_ok, nmX12, rfl, by decide +kernel, fun a => ⟨rfl, rfl⟩⟩
theorem FF_X12_79 : Ff "AirPartedModel" 79 12 26 58 := ⟨RX12, TX12, tyX12, .array .int, rfl, by decide, uwX12, rfl, rfl, W_1113, tyX12_ok, nmX12, rfl, by decide +kernel, fun a => ⟨rfl, rfl⟩⟩
theorem FF_X12_82 : Ff "AirPartedModel" 82 12 27 58 := ⟨RX12, TX12, tyX12, .array .int, rfl, by decide, uwX12, rfl, rfl, W_1114, tyX12_ok, nmX12, rfl, by decide +kernel, fun a => ⟨rfl, rfl⟩⟩
theorem FF_X12_85 : Ff "AirPartedModel" 85 12 28 58 := ⟨RX12, TX12, tyX12, .array .int, rfl, by decide, uwX12, rfl, rfl, W_1115, tyX12_ok, nmX12, rfl, by decide +kernel, fun a => ⟨rfl, rfl⟩⟩
theorem FF_X12_88 : Ff "AirPartedModel" 88 12 29 58 := ⟨RX12, TX12, tyX12, .array .int, rfl, by decide, uwX12, rfl, rfl, W_1116, tyX12_ok, nmX12, rfl, by decide +kernel, fun a => ⟨rfl, rfl⟩⟩
theorem FF_X12_91 : Ff "AirPartedModel" 91 12 31 58 := ⟨RX12, TX12, tyX12, .array .int, rfl, by decide, uwX12, rfl, rfl, W_1118, tyX12_ok, nmX12, rfl, by decide +kernel, fun a => ⟨rfl, rfl⟩⟩
theorem FF_X12_94 : Ff "AirPartedModel" 94 12 32 58 := ⟨RX12, TX12, tyX12, .array .int, rfl, by decide, uwX12, rfl, rfl, W_1119, tyX12_ok, nmX12, rfl, by decide +kernel, fun a => ⟨rfl, rfl⟩⟩
theorem FF_X12_97 : Ff "AirPartedModel" 97 12 33 58 := ⟨RX12, TX12, tyX12, .array .int, rfl, by decide, uwX12, rfl, rfl, W_1120, tyX12_ok, nmX12, rfl, by decide +kernel, fun a => ⟨rfl, rfl⟩⟩
theorem FF_X12_100 : Ff "AirPartedModel" 100 12 37 58 := ⟨RX12, TX12, tyX12, .array .boolean, rfl, by decide, uwX12, rfl, rfl, W_1124, tyX12_ok, nmX12, rfl, by decide +kernel, fun a => ⟨rfl, rfl⟩⟩
theorem FF_X12_103 : Ff "AirPartedModel" 103 12 38 58 := ⟨RX12, TX12, tyX12, .array .int, rfl, by decide, uwX12, rfl, rfl, W_1125, tyX12_ok, nmX12, rfl, by decide +kernel, fun a => ⟨rfl, rfl⟩⟩
theorem FF_X12_106 : Ff "AirPartedModel" 106 12 39 58 := ⟨RX12, TX12, tyX12, .array .int, rfl, by decide, uwX12, rfl, rfl, W_1126, tyX12_ok, nmX12, rfl, by decide +kernel, fun a => ⟨rfl, rfl⟩⟩
theorem FF_X12_109 : Ff "AirPartedModel" 109 12 40 58 := ⟨RX12, TX12, tyX12, .array .int, rfl, by decide, uwX12, rfl, rfl, W_1127, tyX12_ok, nmX12, rfl, by decide +kernel, fun a => ⟨rfl, rfl⟩⟩
theorem FF_X12_112 : Ff "AirPartedModel" 112 12 41 58 := ⟨RX12, TX12, tyX12, .array .int, rfl, by decide, uwX12, rfl, rfl, W_1128, tyX12_ok, nmX12, rfl, by decide +kernel, fun a => ⟨rfl, rfl⟩⟩
theorem FF_X12_115 : Ff "AirPartedModel" 115 12 42 58 := ⟨RX12, TX12, tyX12, .array .int, rfl, by decide, uwX12, rfl, rfl, W_1129, tyX12_ok, nmX12, rfl, by decide +kernel, fun a => ⟨rfl, rfl⟩⟩
theorem FF_X12_118 : Ff "AirPartedModel" 118 12 44 58 := ⟨RX12, TX12, tyX12, .array .int, rfl, by decide, uwX12, rfl, rfl, W_1131, tyX12_ok, nmX12, rfl, by decide +kernel, fun a => ⟨rfl, rfl⟩⟩
theorem FF_X12_121 : Ff "AirPartedModel" 121 12 45 58 := ⟨RX12, TX12, tyX12, .array .int, rfl, by decide, uwX12, rfl, rfl, W_1132, tyX12_ok, nmX12, rfl, by decide +kernel, fun a => ⟨rfl, rfl⟩⟩
theorem FF_X12_124 : Ff "AirPartedModel" 124 12 47 58 := ⟨RX12, TX12, tyX12, .array .int, rfl, by decide, uwX12, rfl, rfl, W_1134, tyX12_ok, nmX12, rfl, by decide +kernel, fun a => ⟨rfl, rfl⟩⟩
theorem FF_X12_127 : Ff "AirPartedModel" 127 12 48 58 := ⟨RX12, TX12, tyX12, .array .int, rfl, by decide, uwX12, rfl, rfl, W_1135, tyX12_ok, nmX12, rfl, by decide +kernel, fun a => ⟨rfl, rfl⟩⟩
theorem FF_X12_130 : Ff "AirPartedModel" 130 12 49 58 := ⟨RX12, TX12, tyX12, .array .int, rfl, by decide, uwX12, rfl, rfl, W_1136, tyX12_ok, nmX12, rfl, by decide +kernel, fun a => ⟨rfl, rfl⟩⟩
theorem FF_X12_133 : Ff "AirPartedModel" 133 12 50 58 := ⟨RX12, TX12, tyX12, .array .int, rfl, by decide, uwX12, rfl, rfl, W_1137, tyX12_ok, nmX12, rfl, by decide +kernel, fun a => ⟨rfl, rfl⟩⟩
theorem FF_X12_136 : Ff "AirPartedModel" 136 12 52 58 := ⟨RX12, TX12, tyX12, .array .int, rfl, by decide, uwX12, rfl, rfl, W_1139, tyX12_ok, nmX12, rfl, by decide +kernel, fun a => ⟨rfl, rfl⟩⟩
theorem FF_X12_139 : Ff "AirPartedModel" 139 12 53 58 := ⟨RX12, TX12, tyX12, .array .int, rfl, by decide, uwX12, rfl, rfl, W_1140, tyX12_ok, nmX12, rfl, by decide +kernel, fun a => ⟨rfl, rfl⟩⟩
theorem FF_X12_142 : Ff "AirPartedModel" 142 12 54 58 := ⟨RX12, TX12, tyX12, .array .int, rfl, by decide, uwX12, rfl, rfl, W_1141, tyX12_ok, nmX12, rfl, by decide +kernel, fun a => ⟨rfl, rfl⟩⟩
theorem SI_X0_29 : Si "AirParted$Air" 29 mX5_init 0 := ⟨⟨by decide, by decide⟩, by decide +kernel, W_107, rfl, rfl, W_106, W_6, Or.inr ⟨"AirParted", N_105⟩⟩
theorem SI_X11_9 : Si "AirParted" 9 mX8_init 0 := ⟨⟨by decide, by decide⟩, by decide +kernel, W_30, rfl, rfl, W_29, W_2, Or.inr ⟨"AirParted", N_28⟩⟩
theorem SI_X11_22 : Si "AirParted" 22 mX6_init 0 := ⟨⟨by decide, by decide⟩, by decide +kernel, W_48, rfl, rfl, W_47, W_3, Or.inr ⟨"AirParted", N_46⟩⟩
theorem SI_X11_25 : Si "AirParted" 25 mX2_init 3 := ⟨⟨by decide, by decide⟩, by decide +kernel, W_76, rfl, rfl, W_75, W_4, Or.inr ⟨"AirParted", N_74⟩⟩
theorem SI_X11_34 : Si "AirParted" 34 mX0_init 3 := ⟨⟨by decide, by decide⟩, by decide +kernel, W_100, rfl, rfl, W_99, W_5, Or.inr ⟨"AirParted", N_98⟩⟩
theorem SI_X11_43 : Si "AirParted" 43 mX4_init 2 := ⟨⟨by decide, by decide⟩, by decide +kernel, W_206, rfl, rfl, W_205, W_7, Or.inr ⟨"AirParted", N_204⟩⟩
theorem SI_X11_52 : Si "AirParted" 52 mX3_init 2 := ⟨⟨by decide, by decide⟩, by decide +kernel, W_245, rfl, rfl, W_244, W_8, Or.inr ⟨"AirParted", N_243⟩⟩
theorem SI_X11_59 : Si "AirParted" 59 mX1_init 0 := ⟨⟨by decide, by decide⟩, by decide +kernel, W_286, rfl, rfl, W_285, W_9, Or.inr ⟨"AirParted", N_284⟩⟩
theorem SI_X11_66 : Si "AirParted" 66 mX7_init 0 := ⟨⟨by decide, by decide⟩, by decide +kernel, W_303, rfl, rfl, W_302, W_10, Or.inr ⟨"AirParted", N_301⟩⟩
theorem SI_X11_73 : Si "AirParted" 73 mX10_init 1 := ⟨⟨by decide, by decide⟩, by decide +kernel, W_346, rfl, rfl, W_345, W_11, Or.inr ⟨"AirParted", N_344⟩⟩
theorem SI_X11_82 : Si "AirParted" 82 mX9_init 2 := ⟨⟨by decide, by decide⟩, by decide +kernel, W_368, rfl, rfl, W_367, W_12, Or.inr ⟨"AirParted", N_366⟩⟩
theorem SI_L_9 : Si "AirPartedLaw" 9 mX11_init 0 := ⟨⟨by decide, by decide⟩, by decide +kernel, W_22, rfl, rfl, W_21, W_1, Or.inl W_20⟩
theorem SI_L_12 : Si "AirPartedLaw" 12 mX12_init 0 := ⟨⟨by decide, by decide⟩, by decide +kernel, W_1085, rfl, rfl, W_1084, W_13, Or.inl W_1083⟩
theorem NC_5 : Nc 5 11 "AirParted$Sender" := ⟨TX5, tyX5, rfl, uwX5, tyX5_ok, by decide +kernel, W_104, W_6⟩
theorem NC_8 : Nc 8 1 "AirParted$Told" := ⟨TX8, tyX8, rfl, uwX8, tyX8_ok, by decide +kernel, W_27, W_2⟩
theorem NC_6 : Nc 6 4 "AirParted$Sheet" := ⟨TX6, tyX6, rfl, uwX6, tyX6_ok, by decide +kernel, W_45, W_3⟩
theorem NC_2 : Nc 2 5 "AirParted$Land" := ⟨TX2, tyX2, rfl, uwX2, tyX2_ok, by decide +kernel, W_73, W_4⟩
theorem NC_0 : Nc 0 9 "AirParted$Air" := ⟨TX0, tyX0, rfl, uwX0, tyX0_ok, by decide +kernel, W_97, W_5⟩
theorem NC_4 : Nc 4 9 "AirParted$Parting" := ⟨TX4, tyX4, rfl, uwX4, tyX4_ok, by decide +kernel, W_203, W_7⟩
theorem NC_3 : Nc 3 10 "AirParted$Listening" := ⟨TX3, tyX3, rfl, uwX3, tyX3_ok, by decide +kernel, W_242, W_8⟩
theorem NC_1 : Nc 1 3 "AirParted$Auction" := ⟨TX1, tyX1, rfl, uwX1, tyX1_ok, by decide +kernel, W_283, W_9⟩
theorem NC_7 : Nc 7 11 "AirParted$Texts" := ⟨TX7, tyX7, rfl, uwX7, tyX7_ok, by decide +kernel, W_300, W_10⟩
theorem NC_10 : Nc 10 4 "AirParted$Watch" := ⟨TX10, tyX10, rfl, uwX10, tyX10_ok, by decide +kernel, W_343, W_11⟩
theorem NC_9 : Nc 9 14 "AirParted$Towers" := ⟨TX9, tyX9, rfl, uwX9, tyX9_ok, by decide +kernel, W_365, W_12⟩
theorem NC_11 : Nc 11 12 "AirParted" := ⟨TX11, tyX11, rfl, uwX11, tyX11_ok, by decide +kernel, W_19, W_1⟩
theorem NC_12 : Nc 12 58 "AirPartedModel" := ⟨TX12, tyX12, rfl, uwX12, tyX12_ok, by decide +kernel, W_1082, W_13⟩
def iW_X8_init (w : Wx) : Wx := wR (wN (w)) 1 0 2
def iS_X8_init (S : St) : St := wi (wi (wi (wi (wi (S) 2 (nt 0) 5) 2 (nt 1) 20) 2 (nt 2) 10) 2 (nt 3) 100) 2 (nt 4) 100
set_option maxRecDepth 100000 in
set_option maxHeartbeats 8000000 in
theorem i_X8_init (w : Wx) (S : St) (h1 : w.1 = wX.1) (h2 : w.2.1 = 2) : MI mX8_init (fun n0 => [.ref (n0 + 1)]) w S (iW_X8_init w) (iS_X8_init S) := by
  obtain ⟨sh, N, ρ⟩ := w
  dsimp only at h1 h2
  subst h1; subst h2
  refine mi_of (show plainFor yX8_init = true from by decide) rfl rfl (fun _ => Nat.le_of_ble_eq_true rfl) ?_
  intro X D ids n0 Q hc hin hR hend
  show Og X _ Q (PsI _ D ids n0 _ _) 0 0 0 [(0, .ref (n0 + 1))] []
  refine og_aload_n 0 hc dX8_init_0 rfl rfl ?_
  refine og_objInit hc W_31 W_24 W_25 (by rw [hR]; exact Nat.le_of_ble_eq_true rfl) (by rw [hR]; exact Nat.le_of_ble_eq_true rfl) dX8_init_1 ?_
  refine og_aload_n 0 hc dX8_init_4 rfl rfl ?_
  refine og_iconst (v := 5) hc dX8_init_5 (by decide) ?_
  refine oi_newi (N := 5) hc W_42 rfl (by decide) (by decide) (by decide) ⟨by rw [hR]; exact Nat.le_of_ble_eq_true rfl, by rw [hR]; exact Nat.le_of_ble_eq_true rfl⟩ dX8_init_6 ?_
  show Og X _ Q (PsI _ D ids n0 _ _) 1 5 8 [(0, .ref (n0 + 1))] [.ref (n0 + 2), .ref (n0 + 1)]
  refine oi_putr (q := 2) hc hin FF_X8_9 rfl ⟨Nat.le_of_ble_eq_true rfl, rfl⟩ dX8_init_8 ?_
  refine og_aload_n 0 hc dX8_init_11 rfl rfl ?_
  refine oi_getr (q := 2) hc FS_X8_9 rfl ⟨Nat.le_of_ble_eq_true rfl, rfl⟩ rfl dX8_init_12 ?_
  refine og_iconst (v := 0) hc dX8_init_15 (by decide) ?_
  refine og_iconst (v := 5) hc dX8_init_16 (by decide) ?_
  refine oi_iast hc ⟨Nat.le_of_ble_eq_true rfl, rfl⟩ (by decide) dX8_init_17 ?_
  refine og_aload_n 0 hc dX8_init_18 rfl rfl ?_
  refine oi_getr (q := 2) hc FS_X8_9 rfl ⟨Nat.le_of_ble_eq_true rfl, rfl⟩ rfl dX8_init_19 ?_
  refine og_iconst (v := 1) hc dX8_init_22 (by decide) ?_
  refine og_bipush (v := 20) hc dX8_init_23 (by decide) ?_
  refine oi_iast hc ⟨Nat.le_of_ble_eq_true rfl, rfl⟩ (by decide) dX8_init_25 ?_
  refine og_aload_n 0 hc dX8_init_26 rfl rfl ?_
  refine oi_getr (q := 2) hc FS_X8_9 rfl ⟨Nat.le_of_ble_eq_true rfl, rfl⟩ rfl dX8_init_27 ?_
  refine og_iconst (v := 2) hc dX8_init_30 (by decide) ?_
  refine og_bipush (v := 10) hc dX8_init_31 (by decide) ?_
  refine oi_iast hc ⟨Nat.le_of_ble_eq_true rfl, rfl⟩ (by decide) dX8_init_33 ?_
  refine og_aload_n 0 hc dX8_init_34 rfl rfl ?_
  refine oi_getr (q := 2) hc FS_X8_9 rfl ⟨Nat.le_of_ble_eq_true rfl, rfl⟩ rfl dX8_init_35 ?_
  refine og_iconst (v := 3) hc dX8_init_38 (by decide) ?_
  refine og_bipush (v := 100) hc dX8_init_39 (by decide) ?_
  refine oi_iast hc ⟨Nat.le_of_ble_eq_true rfl, rfl⟩ (by decide) dX8_init_41 ?_
  refine og_aload_n 0 hc dX8_init_42 rfl rfl ?_
  refine oi_getr (q := 2) hc FS_X8_9 rfl ⟨Nat.le_of_ble_eq_true rfl, rfl⟩ rfl dX8_init_43 ?_
  refine og_iconst (v := 4) hc dX8_init_46 (by decide) ?_
  refine og_bipush (v := 100) hc dX8_init_47 (by decide) ?_
  refine oi_iast hc ⟨Nat.le_of_ble_eq_true rfl, rfl⟩ (by decide) dX8_init_49 ?_
  exact hend _ _ dX8_init_50
set_option maxRecDepth 100000 in
set_option maxHeartbeats 8000000 in
theorem i_X6_init (k : Nat) (w : Wx) (S : St) (h1 : w.1 = wX.1) (h2 : w.2.1 = k + 1) (h0 : wX.1 k = (0, 6, 4)) (h9 : wX.1 (k + 1) = (3, 0, 400)) : MI mX6_init (fun n0 => [.ref (n0 + k)]) w S (wR (wN w) k 0 (k + 1)) (wi S k 1 1) := by
  obtain ⟨sh, N, ρ⟩ := w
  dsimp only at h1 h2
  subst h1; subst h2
  refine mi_of (show plainFor yX6_init = true from by decide) rfl rfl (fun _ => Nat.le_of_ble_eq_true rfl) ?_
  intro X D ids n0 Q hc hin hR hend
  show Og X _ Q (PsI _ D ids n0 _ _) 0 0 0 [(0, .ref (n0 + k))] []
  refine og_aload_n 0 hc dX6_init_0 rfl rfl ?_
  refine og_objInit hc W_49 W_24 W_25 (by rw [hR]; exact Nat.le_of_ble_eq_true rfl) (by rw [hR]; exact Nat.le_of_ble_eq_true rfl) dX6_init_1 ?_
  refine og_aload_n 0 hc dX6_init_4 rfl rfl ?_
  refine og_sipush (v := 400) hc dX6_init_5 (by decide) ?_
  refine oi_newj (N := 400) hc W_71 h9 (by decide) (by decide) (by decide) ⟨by rw [hR]; exact Nat.le_of_ble_eq_true rfl, by rw [hR]; exact Nat.le_of_ble_eq_true rfl⟩ dX6_init_8 ?_
  show Og X _ Q (PsI _ D ids n0 _ _) 1 400 10 [(0, .ref (n0 + k))] [.ref (n0 + k + 1), .ref (n0 + k)]
  refine oi_putr (q := k + 1) hc hin FF_X6_9 rfl ⟨(by show k < k + 1 + 1; omega), h0⟩ dX6_init_10 ?_
  refine og_aload_n 0 hc dX6_init_13 rfl rfl ?_
  refine og_iconst (v := 1) hc dX6_init_14 (by decide) ?_
  refine oi_putv hc FP_X6_13 rfl ⟨(by show k < k + 1 + 1; omega), h0⟩ (by decide) (by decide) dX6_init_15 ?_
  exact hend _ _ dX6_init_18
def iW_X2_init (w : Wx) : Wx := wR (wR (wR (w) 16 0 1) 16 1 4) 16 2 6
def iS_X2_init (S : St) : St := wi (wi (S) 16 3 10) 16 4 10
set_option maxRecDepth 100000 in
set_option maxHeartbeats 8000000 in
theorem i_X2_init (w : Wx) (S : St) (h1 : w.1 = wX.1) (h2 : w.2.1 = 17) : MI mX2_init (fun n0 => [.ref (n0 + 16), .ref (n0 + 1), .ref (n0 + 4), .ref (n0 + 6)]) w S (iW_X2_init w) (iS_X2_init S) := by
  obtain ⟨sh, N, ρ⟩ := w
  dsimp only at h1 h2
  subst h1; subst h2
  refine mi_of (show plainFor yX2_init = true from by decide) rfl rfl (fun _ => Nat.le_of_ble_eq_true rfl) ?_
  intro X D ids n0 Q hc hin hR hend
  show Og X _ Q (PsI _ D ids n0 _ _) 0 0 0 [(0, .ref (n0 + 16)), (1, .ref (n0 + 1)), (2, .ref (n0 + 4)), (3, .ref (n0 + 6))] []
  refine og_aload_n 0 hc dX2_init_0 rfl rfl ?_
  refine og_objInit hc W_77 W_24 W_25 (by rw [hR]; exact Nat.le_of_ble_eq_true rfl) (by rw [hR]; exact Nat.le_of_ble_eq_true rfl) dX2_init_1 ?_
  refine og_aload_n 0 hc dX2_init_4 rfl rfl ?_
  refine og_aload_n 1 hc dX2_init_5 rfl rfl ?_
  refine oi_putr (q := 1) hc hin FF_X2_9 rfl ⟨Nat.le_of_ble_eq_true rfl, rfl⟩ dX2_init_6 ?_
  refine og_aload_n 0 hc dX2_init_9 rfl rfl ?_
  refine og_aload_n 2 hc dX2_init_10 rfl rfl ?_
  refine oi_putr (q := 4) hc hin FF_X2_15 rfl ⟨Nat.le_of_ble_eq_true rfl, rfl⟩ dX2_init_11 ?_
  refine og_aload_n 0 hc dX2_init_14 rfl rfl ?_
  refine og_aload_n 3 hc dX2_init_15 rfl rfl ?_
  refine oi_putr (q := 6) hc hin FF_X2_19 rfl ⟨Nat.le_of_ble_eq_true rfl, rfl⟩ dX2_init_16 ?_
  refine og_aload_n 0 hc dX2_init_19 rfl rfl ?_
  refine og_bipush (v := 10) hc dX2_init_20 (by decide) ?_
  refine oi_putv hc FP_X2_22 rfl ⟨Nat.le_of_ble_eq_true rfl, rfl⟩ (by decide) (by decide) dX2_init_22 ?_
  refine og_aload_n 0 hc dX2_init_25 rfl rfl ?_
  refine og_bipush (v := 10) hc dX2_init_26 (by decide) ?_
  refine oi_putv hc FP_X2_26 rfl ⟨Nat.le_of_ble_eq_true rfl, rfl⟩ (by decide) (by decide) dX2_init_28 ?_
  exact hend _ _ dX2_init_31
def iS_X5 (k : Nat) (S : St) : St := wi (wi (wi (wi (wi (S) k 0 0) k 6 1) k 8 1) k 9 (-1)) k 10 1
set_option maxRecDepth 100000 in
set_option maxHeartbeats 8000000 in
theorem i_X5_init (k : Nat) (w : Wx) (S : St) (h1 : w.1 = wX.1) (ho : Iob w k 5 11) : MI mX5_init (fun n0 => [.ref (n0 + k)]) w S w (iS_X5 k S) := by
  refine mi_of (show plainFor yX5_init = true from by decide) rfl rfl (fun _ => Nat.le_of_ble_eq_true rfl) ?_
  intro X D ids n0 Q hc hin hR hend
  show Og X _ Q (PsI _ D ids n0 _ _) 0 0 0 [(0, .ref (n0 + k))] []
  refine og_aload_n 0 hc dX5_init_0 rfl rfl ?_
  refine og_objInit hc W_108 W_24 W_25 (by rw [hR]; exact Nat.le_of_ble_eq_true rfl) (by rw [hR]; exact Nat.le_of_ble_eq_true rfl) dX5_init_1 ?_
  refine og_aload_n 0 hc dX5_init_4 rfl rfl ?_
  refine og_iconst (v := 0) hc dX5_init_5 (by decide) ?_
  refine oi_putv hc FP_X5_11 rfl ho (by decide) (by decide) dX5_init_6 ?_
  refine og_aload_n 0 hc dX5_init_9 rfl rfl ?_
  refine og_iconst (v := 1) hc dX5_init_10 (by decide) ?_
  refine oi_putv hc FP_X5_15 rfl ho (by decide) (by decide) dX5_init_11 ?_
  refine og_aload_n 0 hc dX5_init_14 rfl rfl ?_
  refine og_iconst (v := 1) hc dX5_init_15 (by decide) ?_
  refine oi_putv hc FP_X5_18 rfl ho (by decide) (by decide) dX5_init_16 ?_
  refine og_aload_n 0 hc dX5_init_19 rfl rfl ?_
  refine og_iconst (v := (-1)) hc dX5_init_20 (by decide) ?_
  refine oi_putv hc FP_X5_21 rfl ho (by decide) (by decide) dX5_init_21 ?_
  refine og_aload_n 0 hc dX5_init_24 rfl rfl ?_
  refine og_iconst (v := 1) hc dX5_init_25 (by decide) ?_
  refine oi_putv hc FP_X5_24 rfl ho (by decide) (by decide) dX5_init_26 ?_
  exact hend _ _ dX5_init_29
def iW_X0_init (w : Wx) : Wx := wR (wN (wR (wN (wR (wN (wR (wN (wR (wN (wR (wN (wR (wN (wR (wN (wR (wN (wR (wN (wR (wN (wR (wN (wR (wN (wR (wN (wR (wN (wR (wN (wR (wN (wR (wN (wR (wN (wR (wN (wR (wN (wR (wN (wR (wN (wR (wR (wR (w) 17 0 1) 17 1 16) 17 2 3)) 17 3 18)) 18 0 19)) 18 1 20)) 18 2 21)) 18 3 22)) 18 4 23)) 18 5 24)) 18 6 25)) 18 7 26)) 18 8 27)) 18 9 28)) 18 10 29)) 18 11 30)) 18 12 31)) 18 13 32)) 18 14 33)) 18 15 34)) 18 16 35)) 18 17 36)) 18 18 37)) 18 19 38)) 17 4 39)) 17 5 40
def iS_X0_init (S : St) : St := iS_X5 38 (iS_X5 37 (iS_X5 36 (iS_X5 35 (iS_X5 34 (iS_X5 33 (iS_X5 32 (iS_X5 31 (iS_X5 30 (iS_X5 29 (iS_X5 28 (iS_X5 27 (iS_X5 26 (iS_X5 25 (iS_X5 24 (iS_X5 23 (iS_X5 22 (iS_X5 21 (iS_X5 20 (iS_X5 19 (S))))))))))))))))))))
set_option maxRecDepth 100000 in
set_option maxHeartbeats 8000000 in
theorem i_X0_init (w : Wx) (S : St) (h1 : w.1 = wX.1) (h2 : w.2.1 = 18) : MI mX0_init (fun n0 => [.ref (n0 + 17), .ref (n0 + 1), .ref (n0 + 16), .ref (n0 + 3)]) w S (iW_X0_init w) (iS_X0_init S) := by
  obtain ⟨sh, N, ρ⟩ := w
  dsimp only at h1 h2
  subst h1; subst h2
  refine mi_of (show plainFor yX0_init = true from by decide) rfl rfl (fun _ => Nat.le_of_ble_eq_true rfl) ?_
  intro X D ids n0 Q hc hin hR hend
  show Og X _ Q (PsI _ D ids n0 _ _) 0 0 0 [(0, .ref (n0 + 17)), (1, .ref (n0 + 1)), (2, .ref (n0 + 16)), (3, .ref (n0 + 3))] []
  refine og_aload_n 0 hc dX0_init_0 rfl rfl ?_
  refine og_objInit hc W_101 W_24 W_25 (by rw [hR]; exact Nat.le_of_ble_eq_true rfl) (by rw [hR]; exact Nat.le_of_ble_eq_true rfl) dX0_init_1 ?_
  refine og_aload_n 0 hc dX0_init_4 rfl rfl ?_
  refine og_aload_n 1 hc dX0_init_5 rfl rfl ?_
  refine oi_putr (q := 1) hc hin FF_X0_9 rfl ⟨Nat.le_of_ble_eq_true rfl, rfl⟩ dX0_init_6 ?_
  refine og_aload_n 0 hc dX0_init_9 rfl rfl ?_
  refine og_aload_n 2 hc dX0_init_10 rfl rfl ?_
  refine oi_putr (q := 16) hc hin FF_X0_15 rfl ⟨Nat.le_of_ble_eq_true rfl, rfl⟩ dX0_init_11 ?_
  refine og_aload_n 0 hc dX0_init_14 rfl rfl ?_
  refine og_aload_n 3 hc dX0_init_15 rfl rfl ?_
  refine oi_putr (q := 3) hc hin FF_X0_19 rfl ⟨Nat.le_of_ble_eq_true rfl, rfl⟩ dX0_init_16 ?_
  refine og_aload_n 0 hc dX0_init_19 rfl rfl ?_
  refine og_bipush (v := 20) hc dX0_init_20 (by decide) ?_
  refine oi_anew (t := 1) (N := 20) hc W_102 N_103 rfl rfl (by decide) (by decide) (by decide) ⟨by rw [hR]; exact Nat.le_of_ble_eq_true rfl, by rw [hR]; exact Nat.le_of_ble_eq_true rfl⟩ dX0_init_22 ?_
  show Og X _ Q (PsI _ D ids n0 _ _) 1 20 25 [(0, .ref (n0 + 17)), (1, .ref (n0 + 1)), (2, .ref (n0 + 16)), (3, .ref (n0 + 3))] [.ref (n0 + 18), .ref (n0 + 17)]
  refine oi_putr (q := 18) hc hin FF_X0_25 rfl ⟨Nat.le_of_ble_eq_true rfl, rfl⟩ dX0_init_25 ?_
  refine og_iconst (v := 0) hc dX0_init_28 (by decide) ?_
  refine og_istore [(4, .int 0), (0, .ref (n0 + 17)), (1, .ref (n0 + 1)), (2, .ref (n0 + 16)), (3, .ref (n0 + 3))] hc dX0_init_29 (Nat.le_of_ble_eq_true rfl) rfl ?_
  refine og_iload 0 hc dX0_init_31 rfl ?_
  refine og_bipush (v := 20) hc dX0_init_33 (by decide) ?_
  refine og_icmp_ge 58 hc dX0_init_35 (by decide) (fun hh => absurd hh (by decide)) (fun _ => ?_)
  refine og_aload_n 1 hc dX0_init_38 rfl rfl ?_
  refine oi_getr (q := 18) hc FS_X0_25 rfl ⟨Nat.le_of_ble_eq_true rfl, rfl⟩ rfl dX0_init_39 ?_
  refine og_iload 0 hc dX0_init_42 rfl ?_
  refine oi_new hc NC_5 W_102 rfl ⟨by rw [hR]; exact Nat.le_of_ble_eq_true rfl, by rw [hR]; exact Nat.le_of_ble_eq_true rfl⟩ dX0_init_44 ?_
  show Og X _ Q (PsI _ D ids n0 _ _) 2 31 47 [(4, .int 0), (0, .ref (n0 + 17)), (1, .ref (n0 + 1)), (2, .ref (n0 + 16)), (3, .ref (n0 + 3))] [.ref (n0 + 19), .int 0, .ref (n0 + 18)]
  refine og_dup hc dX0_init_47 rfl ?_
  refine oi_call (k := 19) (As := []) (st := [.ref (n0 + 19), .int 0, .ref (n0 + 18)]) (fun n0 => [.ref (n0 + 19)]) hc SI_X0_29 (i_X5_init 19 _ _ rfl ⟨Nat.le_of_ble_eq_true rfl, rfl⟩) rfl rfl rfl ⟨by rw [hR]; exact Nat.le_of_ble_eq_true rfl, by rw [hR]; exact Nat.le_of_ble_eq_true rfl⟩ ⟨by rw [hR]; exact Nat.le_of_ble_eq_true rfl, by rw [hR]; exact Nat.le_of_ble_eq_true rfl⟩ (Nat.le_of_ble_eq_true rfl) dX0_init_48 ?_
  refine oi_aast (t := 1) (v := 19) hc ⟨Nat.le_of_ble_eq_true rfl, rfl⟩ rfl ⟨Nat.le_of_ble_eq_true rfl, rfl⟩ rfl (by decide) dX0_init_51 ?_
  refine og_iinc (v := 1) 0 [(4, .int 1), (0, .ref (n0 + 17)), (1, .ref (n0 + 1)), (2, .ref (n0 + 16)), (3, .ref (n0 + 3))] hc dX0_init_52 rfl (by decide) (Nat.le_of_ble_eq_true rfl) rfl ?_
  refine og_goto 31 hc dX0_init_55 (by decide) ?_
  refine og_iload 0 hc dX0_init_31 rfl ?_
  refine og_bipush (v := 20) hc dX0_init_33 (by decide) ?_
  refine og_icmp_ge 58 hc dX0_init_35 (by decide) (fun hh => absurd hh (by decide)) (fun _ => ?_)
  refine og_aload_n 1 hc dX0_init_38 rfl rfl ?_
  refine oi_getr (q := 18) hc FS_X0_25 rfl ⟨Nat.le_of_ble_eq_true rfl, rfl⟩ rfl dX0_init_39 ?_
  refine og_iload 0 hc dX0_init_42 rfl ?_
  refine oi_new hc NC_5 W_102 rfl ⟨by rw [hR]; exact Nat.le_of_ble_eq_true rfl, by rw [hR]; exact Nat.le_of_ble_eq_true rfl⟩ dX0_init_44 ?_
  show Og X _ Q (PsI _ D ids n0 _ _) 3 42 47 [(4, .int 1), (0, .ref (n0 + 17)), (1, .ref (n0 + 1)), (2, .ref (n0 + 16)), (3, .ref (n0 + 3))] [.ref (n0 + 20), .int 1, .ref (n0 + 18)]
  refine og_dup hc dX0_init_47 rfl ?_
  refine oi_call (k := 20) (As := []) (st := [.ref (n0 + 20), .int 1, .ref (n0 + 18)]) (fun n0 => [.ref (n0 + 20)]) hc SI_X0_29 (i_X5_init 20 _ _ rfl ⟨Nat.le_of_ble_eq_true rfl, rfl⟩) rfl rfl rfl ⟨by rw [hR]; exact Nat.le_of_ble_eq_true rfl, by rw [hR]; exact Nat.le_of_ble_eq_true rfl⟩ ⟨by rw [hR]; exact Nat.le_of_ble_eq_true rfl, by rw [hR]; exact Nat.le_of_ble_eq_true rfl⟩ (Nat.le_of_ble_eq_true rfl) dX0_init_48 ?_
  refine oi_aast (t := 1) (v := 20) hc ⟨Nat.le_of_ble_eq_true rfl, rfl⟩ rfl ⟨Nat.le_of_ble_eq_true rfl, rfl⟩ rfl (by decide) dX0_init_51 ?_
  refine og_iinc (v := 2) 0 [(4, .int 2), (0, .ref (n0 + 17)), (1, .ref (n0 + 1)), (2, .ref (n0 + 16)), (3, .ref (n0 + 3))] hc dX0_init_52 rfl (by decide) (Nat.le_of_ble_eq_true rfl) rfl ?_
  refine og_goto 31 hc dX0_init_55 (by decide) ?_
  refine og_iload 0 hc dX0_init_31 rfl ?_
  refine og_bipush (v := 20) hc dX0_init_33 (by decide) ?_
  refine og_icmp_ge 58 hc dX0_init_35 (by decide) (fun hh => absurd hh (by decide)) (fun _ => ?_)
  refine og_aload_n 1 hc dX0_init_38 rfl rfl ?_
  refine oi_getr (q := 18) hc FS_X0_25 rfl ⟨Nat.le_of_ble_eq_true rfl, rfl⟩ rfl dX0_init_39 ?_
  refine og_iload 0 hc dX0_init_42 rfl ?_
  refine oi_new hc NC_5 W_102 rfl ⟨by rw [hR]; exact Nat.le_of_ble_eq_true rfl, by rw [hR]; exact Nat.le_of_ble_eq_true rfl⟩ dX0_init_44 ?_
  show Og X _ Q (PsI _ D ids n0 _ _) 4 53 47 [(4, .int 2), (0, .ref (n0 + 17)), (1, .ref (n0 + 1)), (2, .ref (n0 + 16)), (3, .ref (n0 + 3))] [.ref (n0 + 21), .int 2, .ref (n0 + 18)]
  refine og_dup hc dX0_init_47 rfl ?_
  refine oi_call (k := 21) (As := []) (st := [.ref (n0 + 21), .int 2, .ref (n0 + 18)]) (fun n0 => [.ref (n0 + 21)]) hc SI_X0_29 (i_X5_init 21 _ _ rfl ⟨Nat.le_of_ble_eq_true rfl, rfl⟩) rfl rfl rfl ⟨by rw [hR]; exact Nat.le_of_ble_eq_true rfl, by rw [hR]; exact Nat.le_of_ble_eq_true rfl⟩ ⟨by rw [hR]; exact Nat.le_of_ble_eq_true rfl, by rw [hR]; exact Nat.le_of_ble_eq_true rfl⟩ (Nat.le_of_ble_eq_true rfl) dX0_init_48 ?_
  refine oi_aast (t := 1) (v := 21) hc ⟨Nat.le_of_ble_eq_true rfl, rfl⟩ rfl ⟨Nat.le_of_ble_eq_true rfl, rfl⟩ rfl (by decide) dX0_init_51 ?_
  refine og_iinc (v := 3) 0 [(4, .int 3), (0, .ref (n0 + 17)), (1, .ref (n0 + 1)), (2, .ref (n0 + 16)), (3, .ref (n0 + 3))] hc dX0_init_52 rfl (by decide) (Nat.le_of_ble_eq_true rfl) rfl ?_
  refine og_goto 31 hc dX0_init_55 (by decide) ?_
  refine og_iload 0 hc dX0_init_31 rfl ?_
  refine og_bipush (v := 20) hc dX0_init_33 (by decide) ?_
  refine og_icmp_ge 58 hc dX0_init_35 (by decide) (fun hh => absurd hh (by decide)) (fun _ => ?_)
  refine og_aload_n 1 hc dX0_init_38 rfl rfl ?_
  refine oi_getr (q := 18) hc FS_X0_25 rfl ⟨Nat.le_of_ble_eq_true rfl, rfl⟩ rfl dX0_init_39 ?_
  refine og_iload 0 hc dX0_init_42 rfl ?_
  refine oi_new hc NC_5 W_102 rfl ⟨by rw [hR]; exact Nat.le_of_ble_eq_true rfl, by rw [hR]; exact Nat.le_of_ble_eq_true rfl⟩ dX0_init_44 ?_
  show Og X _ Q (PsI _ D ids n0 _ _) 5 64 47 [(4, .int 3), (0, .ref (n0 + 17)), (1, .ref (n0 + 1)), (2, .ref (n0 + 16)), (3, .ref (n0 + 3))] [.ref (n0 + 22), .int 3, .ref (n0 + 18)]
  refine og_dup hc dX0_init_47 rfl ?_
  refine oi_call (k := 22) (As := []) (st := [.ref (n0 + 22), .int 3, .ref (n0 + 18)]) (fun n0 => [.ref (n0 + 22)]) hc SI_X0_29 (i_X5_init 22 _ _ rfl ⟨Nat.le_of_ble_eq_true rfl, rfl⟩) rfl rfl rfl ⟨by rw [hR]; exact Nat.le_of_ble_eq_true rfl, by rw [hR]; exact Nat.le_of_ble_eq_true rfl⟩ ⟨by rw [hR]; exact Nat.le_of_ble_eq_true rfl, by rw [hR]; exact Nat.le_of_ble_eq_true rfl⟩ (Nat.le_of_ble_eq_true rfl) dX0_init_48 ?_
  refine oi_aast (t := 1) (v := 22) hc ⟨Nat.le_of_ble_eq_true rfl, rfl⟩ rfl ⟨Nat.le_of_ble_eq_true rfl, rfl⟩ rfl (by decide) dX0_init_51 ?_
  refine og_iinc (v := 4) 0 [(4, .int 4), (0, .ref (n0 + 17)), (1, .ref (n0 + 1)), (2, .ref (n0 + 16)), (3, .ref (n0 + 3))] hc dX0_init_52 rfl (by decide) (Nat.le_of_ble_eq_true rfl) rfl ?_
  refine og_goto 31 hc dX0_init_55 (by decide) ?_
  refine og_iload 0 hc dX0_init_31 rfl ?_
  refine og_bipush (v := 20) hc dX0_init_33 (by decide) ?_
  refine og_icmp_ge 58 hc dX0_init_35 (by decide) (fun hh => absurd hh (by decide)) (fun _ => ?_)
  refine og_aload_n 1 hc dX0_init_38 rfl rfl ?_
  refine oi_getr (q := 18) hc FS_X0_25 rfl ⟨Nat.le_of_ble_eq_true rfl, rfl⟩ rfl dX0_init_39 ?_
  refine og_iload 0 hc dX0_init_42 rfl ?_
  refine oi_new hc NC_5 W_102 rfl ⟨by rw [hR]; exact Nat.le_of_ble_eq_true rfl, by rw [hR]; exact Nat.le_of_ble_eq_true rfl⟩ dX0_init_44 ?_
  show Og X _ Q (PsI _ D ids n0 _ _) 6 75 47 [(4, .int 4), (0, .ref (n0 + 17)), (1, .ref (n0 + 1)), (2, .ref (n0 + 16)), (3, .ref (n0 + 3))] [.ref (n0 + 23), .int 4, .ref (n0 + 18)]
  refine og_dup hc dX0_init_47 rfl ?_
  refine oi_call (k := 23) (As := []) (st := [.ref (n0 + 23), .int 4, .ref (n0 + 18)]) (fun n0 => [.ref (n0 + 23)]) hc SI_X0_29 (i_X5_init 23 _ _ rfl ⟨Nat.le_of_ble_eq_true rfl, rfl⟩) rfl rfl rfl ⟨by rw [hR]; exact Nat.le_of_ble_eq_true rfl, by rw [hR]; exact Nat.le_of_ble_eq_true rfl⟩ ⟨by rw [hR]; exact Nat.le_of_ble_eq_true rfl, by rw [hR]; exact Nat.le_of_ble_eq_true rfl⟩ (Nat.le_of_ble_eq_true rfl) dX0_init_48 ?_
  refine oi_aast (t := 1) (v := 23) hc ⟨Nat.le_of_ble_eq_true rfl, rfl⟩ rfl ⟨Nat.le_of_ble_eq_true rfl, rfl⟩ rfl (by decide) dX0_init_51 ?_
  refine og_iinc (v := 5) 0 [(4, .int 5), (0, .ref (n0 + 17)), (1, .ref (n0 + 1)), (2, .ref (n0 + 16)), (3, .ref (n0 + 3))] hc dX0_init_52 rfl (by decide) (Nat.le_of_ble_eq_true rfl) rfl ?_
  refine og_goto 31 hc dX0_init_55 (by decide) ?_
  refine og_iload 0 hc dX0_init_31 rfl ?_
  refine og_bipush (v := 20) hc dX0_init_33 (by decide) ?_
  refine og_icmp_ge 58 hc dX0_init_35 (by decide) (fun hh => absurd hh (by decide)) (fun _ => ?_)
  refine og_aload_n 1 hc dX0_init_38 rfl rfl ?_
  refine oi_getr (q := 18) hc FS_X0_25 rfl ⟨Nat.le_of_ble_eq_true rfl, rfl⟩ rfl dX0_init_39 ?_
  refine og_iload 0 hc dX0_init_42 rfl ?_
  refine oi_new hc NC_5 W_102 rfl ⟨by rw [hR]; exact Nat.le_of_ble_eq_true rfl, by rw [hR]; exact Nat.le_of_ble_eq_true rfl⟩ dX0_init_44 ?_
  show Og X _ Q (PsI _ D ids n0 _ _) 7 86 47 [(4, .int 5), (0, .ref (n0 + 17)), (1, .ref (n0 + 1)), (2, .ref (n0 + 16)), (3, .ref (n0 + 3))] [.ref (n0 + 24), .int 5, .ref (n0 + 18)]
  refine og_dup hc dX0_init_47 rfl ?_
  refine oi_call (k := 24) (As := []) (st := [.ref (n0 + 24), .int 5, .ref (n0 + 18)]) (fun n0 => [.ref (n0 + 24)]) hc SI_X0_29 (i_X5_init 24 _ _ rfl ⟨Nat.le_of_ble_eq_true rfl, rfl⟩) rfl rfl rfl ⟨by rw [hR]; exact Nat.le_of_ble_eq_true rfl, by rw [hR]; exact Nat.le_of_ble_eq_true rfl⟩ ⟨by rw [hR]; exact Nat.le_of_ble_eq_true rfl, by rw [hR]; exact Nat.le_of_ble_eq_true rfl⟩ (Nat.le_of_ble_eq_true rfl) dX0_init_48 ?_
  refine oi_aast (t := 1) (v := 24) hc ⟨Nat.le_of_ble_eq_true rfl, rfl⟩ rfl ⟨Nat.le_of_ble_eq_true rfl, rfl⟩ rfl (by decide) dX0_init_51 ?_
  refine og_iinc (v := 6) 0 [(4, .int 6), (0, .ref (n0 + 17)), (1, .ref (n0 + 1)), (2, .ref (n0 + 16)), (3, .ref (n0 + 3))] hc dX0_init_52 rfl (by decide) (Nat.le_of_ble_eq_true rfl) rfl ?_
  refine og_goto 31 hc dX0_init_55 (by decide) ?_
  refine og_iload 0 hc dX0_init_31 rfl ?_
  refine og_bipush (v := 20) hc dX0_init_33 (by decide) ?_
  refine og_icmp_ge 58 hc dX0_init_35 (by decide) (fun hh => absurd hh (by decide)) (fun _ => ?_)
  refine og_aload_n 1 hc dX0_init_38 rfl rfl ?_
  refine oi_getr (q := 18) hc FS_X0_25 rfl ⟨Nat.le_of_ble_eq_true rfl, rfl⟩ rfl dX0_init_39 ?_
  refine og_iload 0 hc dX0_init_42 rfl ?_
  refine oi_new hc NC_5 W_102 rfl ⟨by rw [hR]; exact Nat.le_of_ble_eq_true rfl, by rw [hR]; exact Nat.le_of_ble_eq_true rfl⟩ dX0_init_44 ?_
  show Og X _ Q (PsI _ D ids n0 _ _) 8 97 47 [(4, .int 6), (0, .ref (n0 + 17)), (1, .ref (n0 + 1)), (2, .ref (n0 + 16)), (3, .ref (n0 + 3))] [.ref (n0 + 25), .int 6, .ref (n0 + 18)]
  refine og_dup hc dX0_init_47 rfl ?_
  refine oi_call (k := 25) (As := []) (st := [.ref (n0 + 25), .int 6, .ref (n0 + 18)]) (fun n0 => [.ref (n0 + 25)]) hc SI_X0_29 (i_X5_init 25 _ _ rfl ⟨Nat.le_of_ble_eq_true rfl, rfl⟩) rfl rfl rfl ⟨by rw [hR]; exact Nat.le_of_ble_eq_true rfl, by rw [hR]; exact Nat.le_of_ble_eq_true rfl⟩ ⟨by rw [hR]; exact Nat.le_of_ble_eq_true rfl, by rw [hR]; exact Nat.le_of_ble_eq_true rfl⟩ (Nat.le_of_ble_eq_true rfl) dX0_init_48 ?_
  refine oi_aast (t := 1) (v := 25) hc ⟨Nat.le_of_ble_eq_true rfl, rfl⟩ rfl ⟨Nat.le_of_ble_eq_true rfl, rfl⟩ rfl (by decide) dX0_init_51 ?_
  refine og_iinc (v := 7) 0 [(4, .int 7), (0, .ref (n0 + 17)), (1, .ref (n0 + 1)), (2, .ref (n0 + 16)), (3, .ref (n0 + 3))] hc dX0_init_52 rfl (by decide) (Nat.le_of_ble_eq_true rfl) rfl ?_
  refine og_goto 31 hc dX0_init_55 (by decide) ?_
  refine og_iload 0 hc dX0_init_31 rfl ?_
  refine og_bipush (v := 20) hc dX0_init_33 (by decide) ?_
  refine og_icmp_ge 58 hc dX0_init_35 (by decide) (fun hh => absurd hh (by decide)) (fun _ => ?_)
  refine og_aload_n 1 hc dX0_init_38 rfl rfl ?_
  refine oi_getr (q := 18) hc FS_X0_25 rfl ⟨Nat.le_of_ble_eq_true rfl, rfl⟩ rfl dX0_init_39 ?_
  refine og_iload 0 hc dX0_init_42 rfl ?_
  refine oi_new hc NC_5 W_102 rfl ⟨by rw [hR]; exact Nat.le_of_ble_eq_true rfl, by rw [hR]; exact Nat.le_of_ble_eq_true rfl⟩ dX0_init_44 ?_
  show Og X _ Q (PsI _ D ids n0 _ _) 9 108 47 [(4, .int 7), (0, .ref (n0 + 17)), (1, .ref (n0 + 1)), (2, .ref (n0 + 16)), (3, .ref (n0 + 3))] [.ref (n0 + 26), .int 7, .ref (n0 + 18)]
  refine og_dup hc dX0_init_47 rfl ?_
  refine oi_call (k := 26) (As := []) (st := [.ref (n0 + 26), .int 7, .ref (n0 + 18)]) (fun n0 => [.ref (n0 + 26)]) hc SI_X0_29 (i_X5_init 26 _ _ rfl ⟨Nat.le_of_ble_eq_true rfl, rfl⟩) rfl rfl rfl ⟨by rw [hR]; exact Nat.le_of_ble_eq_true rfl, by rw [hR]; exact Nat.le_of_ble_eq_true rfl⟩ ⟨by rw [hR]; exact Nat.le_of_ble_eq_true rfl, by rw [hR]; exact Nat.le_of_ble_eq_true rfl⟩ (Nat.le_of_ble_eq_true rfl) dX0_init_48 ?_
  refine oi_aast (t := 1) (v := 26) hc ⟨Nat.le_of_ble_eq_true rfl, rfl⟩ rfl ⟨Nat.le_of_ble_eq_true rfl, rfl⟩ rfl (by decide) dX0_init_51 ?_
  refine og_iinc (v := 8) 0 [(4, .int 8), (0, .ref (n0 + 17)), (1, .ref (n0 + 1)), (2, .ref (n0 + 16)), (3, .ref (n0 + 3))] hc dX0_init_52 rfl (by decide) (Nat.le_of_ble_eq_true rfl) rfl ?_
  refine og_goto 31 hc dX0_init_55 (by decide) ?_
  refine og_iload 0 hc dX0_init_31 rfl ?_
  refine og_bipush (v := 20) hc dX0_init_33 (by decide) ?_
  refine og_icmp_ge 58 hc dX0_init_35 (by decide) (fun hh => absurd hh (by decide)) (fun _ => ?_)
  refine og_aload_n 1 hc dX0_init_38 rfl rfl ?_
  refine oi_getr (q := 18) hc FS_X0_25 rfl ⟨Nat.le_of_ble_eq_true rfl, rfl⟩ rfl dX0_init_39 ?_
  refine og_iload 0 hc dX0_init_42 rfl ?_
  refine oi_new hc NC_5 W_102 rfl ⟨by rw [hR]; exact Nat.le_of_ble_eq_true rfl, by rw [hR]; exact Nat.le_of_ble_eq_true rfl⟩ dX0_init_44 ?_
  show Og X _ Q (PsI _ D ids n0 _ _) 10 119 47 [(4, .int 8), (0, .ref (n0 + 17)), (1, .ref (n0 + 1)), (2, .ref (n0 + 16)), (3, .ref (n0 + 3))] [.ref (n0 + 27), .int 8, .ref (n0 + 18)]
  refine og_dup hc dX0_init_47 rfl ?_
  refine oi_call (k := 27) (As := []) (st := [.ref (n0 + 27), .int 8, .ref (n0 + 18)]) (fun n0 => [.ref (n0 + 27)]) hc SI_X0_29 (i_X5_init 27 _ _ rfl ⟨Nat.le_of_ble_eq_true rfl, rfl⟩) rfl rfl rfl ⟨by rw [hR]; exact Nat.le_of_ble_eq_true rfl, by rw [hR]; exact Nat.le_of_ble_eq_true rfl⟩ ⟨by rw [hR]; exact Nat.le_of_ble_eq_true rfl, by rw [hR]; exact Nat.le_of_ble_eq_true rfl⟩ (Nat.le_of_ble_eq_true rfl) dX0_init_48 ?_
  refine oi_aast (t := 1) (v := 27) hc ⟨Nat.le_of_ble_eq_true rfl, rfl⟩ rfl ⟨Nat.le_of_ble_eq_true rfl, rfl⟩ rfl (by decide) dX0_init_51 ?_
  refine og_iinc (v := 9) 0 [(4, .int 9), (0, .ref (n0 + 17)), (1, .ref (n0 + 1)), (2, .ref (n0 + 16)), (3, .ref (n0 + 3))] hc dX0_init_52 rfl (by decide) (Nat.le_of_ble_eq_true rfl) rfl ?_
  refine og_goto 31 hc dX0_init_55 (by decide) ?_
  refine og_iload 0 hc dX0_init_31 rfl ?_
  refine og_bipush (v := 20) hc dX0_init_33 (by decide) ?_
  refine og_icmp_ge 58 hc dX0_init_35 (by decide) (fun hh => absurd hh (by decide)) (fun _ => ?_)
  refine og_aload_n 1 hc dX0_init_38 rfl rfl ?_
  refine oi_getr (q := 18) hc FS_X0_25 rfl ⟨Nat.le_of_ble_eq_true rfl, rfl⟩ rfl dX0_init_39 ?_
  refine og_iload 0 hc dX0_init_42 rfl ?_
  refine oi_new hc NC_5 W_102 rfl ⟨by rw [hR]; exact Nat.le_of_ble_eq_true rfl, by rw [hR]; exact Nat.le_of_ble_eq_true rfl⟩ dX0_init_44 ?_
  show Og X _ Q (PsI _ D ids n0 _ _) 11 130 47 [(4, .int 9), (0, .ref (n0 + 17)), (1, .ref (n0 + 1)), (2, .ref (n0 + 16)), (3, .ref (n0 + 3))] [.ref (n0 + 28), .int 9, .ref (n0 + 18)]
  refine og_dup hc dX0_init_47 rfl ?_
  refine oi_call (k := 28) (As := []) (st := [.ref (n0 + 28), .int 9, .ref (n0 + 18)]) (fun n0 => [.ref (n0 + 28)]) hc SI_X0_29 (i_X5_init 28 _ _ rfl ⟨Nat.le_of_ble_eq_true rfl, rfl⟩) rfl rfl rfl ⟨by rw [hR]; exact Nat.le_of_ble_eq_true rfl, by rw [hR]; exact Nat.le_of_ble_eq_true rfl⟩ ⟨by rw [hR]; exact Nat.le_of_ble_eq_true rfl, by rw [hR]; exact Nat.le_of_ble_eq_true rfl⟩ (Nat.le_of_ble_eq_true rfl) dX0_init_48 ?_
  refine oi_aast (t := 1) (v := 28) hc ⟨Nat.le_of_ble_eq_true rfl, rfl⟩ rfl ⟨Nat.le_of_ble_eq_true rfl, rfl⟩ rfl (by decide) dX0_init_51 ?_
  refine og_iinc (v := 10) 0 [(4, .int 10), (0, .ref (n0 + 17)), (1, .ref (n0 + 1)), (2, .ref (n0 + 16)), (3, .ref (n0 + 3))] hc dX0_init_52 rfl (by decide) (Nat.le_of_ble_eq_true rfl) rfl ?_
  refine og_goto 31 hc dX0_init_55 (by decide) ?_
  refine og_iload 0 hc dX0_init_31 rfl ?_
  refine og_bipush (v := 20) hc dX0_init_33 (by decide) ?_
  refine og_icmp_ge 58 hc dX0_init_35 (by decide) (fun hh => absurd hh (by decide)) (fun _ => ?_)
  refine og_aload_n 1 hc dX0_init_38 rfl rfl ?_
  refine oi_getr (q := 18) hc FS_X0_25 rfl ⟨Nat.le_of_ble_eq_true rfl, rfl⟩ rfl dX0_init_39 ?_
  refine og_iload 0 hc dX0_init_42 rfl ?_
  refine oi_new hc NC_5 W_102 rfl ⟨by rw [hR]; exact Nat.le_of_ble_eq_true rfl, by rw [hR]; exact Nat.le_of_ble_eq_true rfl⟩ dX0_init_44 ?_
  show Og X _ Q (PsI _ D ids n0 _ _) 12 141 47 [(4, .int 10), (0, .ref (n0 + 17)), (1, .ref (n0 + 1)), (2, .ref (n0 + 16)), (3, .ref (n0 + 3))] [.ref (n0 + 29), .int 10, .ref (n0 + 18)]
  refine og_dup hc dX0_init_47 rfl ?_
  refine oi_call (k := 29) (As := []) (st := [.ref (n0 + 29), .int 10, .ref (n0 + 18)]) (fun n0 => [.ref (n0 + 29)]) hc SI_X0_29 (i_X5_init 29 _ _ rfl ⟨Nat.le_of_ble_eq_true rfl, rfl⟩) rfl rfl rfl ⟨by rw [hR]; exact Nat.le_of_ble_eq_true rfl, by rw [hR]; exact Nat.le_of_ble_eq_true rfl⟩ ⟨by rw [hR]; exact Nat.le_of_ble_eq_true rfl, by rw [hR]; exact Nat.le_of_ble_eq_true rfl⟩ (Nat.le_of_ble_eq_true rfl) dX0_init_48 ?_
  refine oi_aast (t := 1) (v := 29) hc ⟨Nat.le_of_ble_eq_true rfl, rfl⟩ rfl ⟨Nat.le_of_ble_eq_true rfl, rfl⟩ rfl (by decide) dX0_init_51 ?_
  refine og_iinc (v := 11) 0 [(4, .int 11), (0, .ref (n0 + 17)), (1, .ref (n0 + 1)), (2, .ref (n0 + 16)), (3, .ref (n0 + 3))] hc dX0_init_52 rfl (by decide) (Nat.le_of_ble_eq_true rfl) rfl ?_
  refine og_goto 31 hc dX0_init_55 (by decide) ?_
  refine og_iload 0 hc dX0_init_31 rfl ?_
  refine og_bipush (v := 20) hc dX0_init_33 (by decide) ?_
  refine og_icmp_ge 58 hc dX0_init_35 (by decide) (fun hh => absurd hh (by decide)) (fun _ => ?_)
  refine og_aload_n 1 hc dX0_init_38 rfl rfl ?_
  refine oi_getr (q := 18) hc FS_X0_25 rfl ⟨Nat.le_of_ble_eq_true rfl, rfl⟩ rfl dX0_init_39 ?_
  refine og_iload 0 hc dX0_init_42 rfl ?_
  refine oi_new hc NC_5 W_102 rfl ⟨by rw [hR]; exact Nat.le_of_ble_eq_true rfl, by rw [hR]; exact Nat.le_of_ble_eq_true rfl⟩ dX0_init_44 ?_
  show Og X _ Q (PsI _ D ids n0 _ _) 13 152 47 [(4, .int 11), (0, .ref (n0 + 17)), (1, .ref (n0 + 1)), (2, .ref (n0 + 16)), (3, .ref (n0 + 3))] [.ref (n0 + 30), .int 11, .ref (n0 + 18)]
  refine og_dup hc dX0_init_47 rfl ?_
  refine oi_call (k := 30) (As := []) (st := [.ref (n0 + 30), .int 11, .ref (n0 + 18)]) (fun n0 => [.ref (n0 + 30)]) hc SI_X0_29 (i_X5_init 30 _ _ rfl ⟨Nat.le_of_ble_eq_true rfl, rfl⟩) rfl rfl rfl ⟨by rw [hR]; exact Nat.le_of_ble_eq_true rfl, by rw [hR]; exact Nat.le_of_ble_eq_true rfl⟩ ⟨by rw [hR]; exact Nat.le_of_ble_eq_true rfl, by rw [hR]; exact Nat.le_of_ble_eq_true rfl⟩ (Nat.le_of_ble_eq_true rfl) dX0_init_48 ?_
  refine oi_aast (t := 1) (v := 30) hc ⟨Nat.le_of_ble_eq_true rfl, rfl⟩ rfl ⟨Nat.le_of_ble_eq_true rfl, rfl⟩ rfl (by decide) dX0_init_51 ?_
  refine og_iinc (v := 12) 0 [(4, .int 12), (0, .ref (n0 + 17)), (1, .ref (n0 + 1)), (2, .ref (n0 + 16)), (3, .ref (n0 + 3))] hc dX0_init_52 rfl (by decide) (Nat.le_of_ble_eq_true rfl) rfl ?_
  refine og_goto 31 hc dX0_init_55 (by decide) ?_
  refine og_iload 0 hc dX0_init_31 rfl ?_
  refine og_bipush (v := 20) hc dX0_init_33 (by decide) ?_
  refine og_icmp_ge 58 hc dX0_init_35 (by decide) (fun hh => absurd hh (by decide)) (fun _ => ?_)
  refine og_aload_n 1 hc dX0_init_38 rfl rfl ?_
  refine oi_getr (q := 18) hc FS_X0_25 rfl ⟨Nat.le_of_ble_eq_true rfl, rfl⟩ rfl dX0_init_39 ?_
  refine og_iload 0 hc dX0_init_42 rfl ?_
  refine oi_new hc NC_5 W_102 rfl ⟨by rw [hR]; exact Nat.le_of_ble_eq_true rfl, by rw [hR]; exact Nat.le_of_ble_eq_true rfl⟩ dX0_init_44 ?_
  show Og X _ Q (PsI _ D ids n0 _ _) 14 163 47 [(4, .int 12), (0, .ref (n0 + 17)), (1, .ref (n0 + 1)), (2, .ref (n0 + 16)), (3, .ref (n0 + 3))] [.ref (n0 + 31), .int 12, .ref (n0 + 18)]
  refine og_dup hc dX0_init_47 rfl ?_
  refine oi_call (k := 31) (As := []) (st := [.ref (n0 + 31), .int 12, .ref (n0 + 18)]) (fun n0 => [.ref (n0 + 31)]) hc SI_X0_29 (i_X5_init 31 _ _ rfl ⟨Nat.le_of_ble_eq_true rfl, rfl⟩) rfl rfl rfl ⟨by rw [hR]; exact Nat.le_of_ble_eq_true rfl, by rw [hR]; exact Nat.le_of_ble_eq_true rfl⟩ ⟨by rw [hR]; exact Nat.le_of_ble_eq_true rfl, by rw [hR]; exact Nat.le_of_ble_eq_true rfl⟩ (Nat.le_of_ble_eq_true rfl) dX0_init_48 ?_
  refine oi_aast (t := 1) (v := 31) hc ⟨Nat.le_of_ble_eq_true rfl, rfl⟩ rfl ⟨Nat.le_of_ble_eq_true rfl, rfl⟩ rfl (by decide) dX0_init_51 ?_
  refine og_iinc (v := 13) 0 [(4, .int 13), (0, .ref (n0 + 17)), (1, .ref (n0 + 1)), (2, .ref (n0 + 16)), (3, .ref (n0 + 3))] hc dX0_init_52 rfl (by decide) (Nat.le_of_ble_eq_true rfl) rfl ?_
  refine og_goto 31 hc dX0_init_55 (by decide) ?_
  refine og_iload 0 hc dX0_init_31 rfl ?_
  refine og_bipush (v := 20) hc dX0_init_33 (by decide) ?_
  refine og_icmp_ge 58 hc dX0_init_35 (by decide) (fun hh => absurd hh (by decide)) (fun _ => ?_)
  refine og_aload_n 1 hc dX0_init_38 rfl rfl ?_
  refine oi_getr (q := 18) hc FS_X0_25 rfl ⟨Nat.le_of_ble_eq_true rfl, rfl⟩ rfl dX0_init_39 ?_
  refine og_iload 0 hc dX0_init_42 rfl ?_
  refine oi_new hc NC_5 W_102 rfl ⟨by rw [hR]; exact Nat.le_of_ble_eq_true rfl, by rw [hR]; exact Nat.le_of_ble_eq_true rfl⟩ dX0_init_44 ?_
  show Og X _ Q (PsI _ D ids n0 _ _) 15 174 47 [(4, .int 13), (0, .ref (n0 + 17)), (1, .ref (n0 + 1)), (2, .ref (n0 + 16)), (3, .ref (n0 + 3))] [.ref (n0 + 32), .int 13, .ref (n0 + 18)]
  refine og_dup hc dX0_init_47 rfl ?_
  refine oi_call (k := 32) (As := []) (st := [.ref (n0 + 32), .int 13, .ref (n0 + 18)]) (fun n0 => [.ref (n0 + 32)]) hc SI_X0_29 (i_X5_init 32 _ _ rfl ⟨Nat.le_of_ble_eq_true rfl, rfl⟩) rfl rfl rfl ⟨by rw [hR]; exact Nat.le_of_ble_eq_true rfl, by rw [hR]; exact Nat.le_of_ble_eq_true rfl⟩ ⟨by rw [hR]; exact Nat.le_of_ble_eq_true rfl, by rw [hR]; exact Nat.le_of_ble_eq_true rfl⟩ (Nat.le_of_ble_eq_true rfl) dX0_init_48 ?_
  refine oi_aast (t := 1) (v := 32) hc ⟨Nat.le_of_ble_eq_true rfl, rfl⟩ rfl ⟨Nat.le_of_ble_eq_true rfl, rfl⟩ rfl (by decide) dX0_init_51 ?_
  refine og_iinc (v := 14) 0 [(4, .int 14), (0, .ref (n0 + 17)), (1, .ref (n0 + 1)), (2, .ref (n0 + 16)), (3, .ref (n0 + 3))] hc dX0_init_52 rfl (by decide) (Nat.le_of_ble_eq_true rfl) rfl ?_
  refine og_goto 31 hc dX0_init_55 (by decide) ?_
  refine og_iload 0 hc dX0_init_31 rfl ?_
  refine og_bipush (v := 20) hc dX0_init_33 (by decide) ?_
  refine og_icmp_ge 58 hc dX0_init_35 (by decide) (fun hh => absurd hh (by decide)) (fun _ => ?_)
  refine og_aload_n 1 hc dX0_init_38 rfl rfl ?_
  refine oi_getr (q := 18) hc FS_X0_25 rfl ⟨Nat.le_of_ble_eq_true rfl, rfl⟩ rfl dX0_init_39 ?_
  refine og_iload 0 hc dX0_init_42 rfl ?_
  refine oi_new hc NC_5 W_102 rfl ⟨by rw [hR]; exact Nat.le_of_ble_eq_true rfl, by rw [hR]; exact Nat.le_of_ble_eq_true rfl⟩ dX0_init_44 ?_
  show Og X _ Q (PsI _ D ids n0 _ _) 16 185 47 [(4, .int 14), (0, .ref (n0 + 17)), (1, .ref (n0 + 1)), (2, .ref (n0 + 16)), (3, .ref (n0 + 3))] [.ref (n0 + 33), .int 14, .ref (n0 + 18)]
  refine og_dup hc dX0_init_47 rfl ?_
  refine oi_call (k := 33) (As := []) (st := [.ref (n0 + 33), .int 14, .ref (n0 + 18)]) (fun n0 => [.ref (n0 + 33)]) hc SI_X0_29 (i_X5_init 33 _ _ rfl ⟨Nat.le_of_ble_eq_true rfl, rfl⟩) rfl rfl rfl ⟨by rw [hR]; exact Nat.le_of_ble_eq_true rfl, by rw [hR]; exact Nat.le_of_ble_eq_true rfl⟩ ⟨by rw [hR]; exact Nat.le_of_ble_eq_true rfl, by rw [hR]; exact Nat.le_of_ble_eq_true rfl⟩ (Nat.le_of_ble_eq_true rfl) dX0_init_48 ?_
  refine oi_aast (t := 1) (v := 33) hc ⟨Nat.le_of_ble_eq_true rfl, rfl⟩ rfl ⟨Nat.le_of_ble_eq_true rfl, rfl⟩ rfl (by decide) dX0_init_51 ?_
  refine og_iinc (v := 15) 0 [(4, .int 15), (0, .ref (n0 + 17)), (1, .ref (n0 + 1)), (2, .ref (n0 + 16)), (3, .ref (n0 + 3))] hc dX0_init_52 rfl (by decide) (Nat.le_of_ble_eq_true rfl) rfl ?_
  refine og_goto 31 hc dX0_init_55 (by decide) ?_
  refine og_iload 0 hc dX0_init_31 rfl ?_
  refine og_bipush (v := 20) hc dX0_init_33 (by decide) ?_
  refine og_icmp_ge 58 hc dX0_init_35 (by decide) (fun hh => absurd hh (by decide)) (fun _ => ?_)
  refine og_aload_n 1 hc dX0_init_38 rfl rfl ?_
  refine oi_getr (q := 18) hc FS_X0_25 rfl ⟨Nat.le_of_ble_eq_true rfl, rfl⟩ rfl dX0_init_39 ?_
  refine og_iload 0 hc dX0_init_42 rfl ?_
  refine oi_new hc NC_5 W_102 rfl ⟨by rw [hR]; exact Nat.le_of_ble_eq_true rfl, by rw [hR]; exact Nat.le_of_ble_eq_true rfl⟩ dX0_init_44 ?_
  show Og X _ Q (PsI _ D ids n0 _ _) 17 196 47 [(4, .int 15), (0, .ref (n0 + 17)), (1, .ref (n0 + 1)), (2, .ref (n0 + 16)), (3, .ref (n0 + 3))] [.ref (n0 + 34), .int 15, .ref (n0 + 18)]
  refine og_dup hc dX0_init_47 rfl ?_
  refine oi_call (k := 34) (As := []) (st := [.ref (n0 + 34), .int 15, .ref (n0 + 18)]) (fun n0 => [.ref (n0 + 34)]) hc SI_X0_29 (i_X5_init 34 _ _ rfl ⟨Nat.le_of_ble_eq_true rfl, rfl⟩) rfl rfl rfl ⟨by rw [hR]; exact Nat.le_of_ble_eq_true rfl, by rw [hR]; exact Nat.le_of_ble_eq_true rfl⟩ ⟨by rw [hR]; exact Nat.le_of_ble_eq_true rfl, by rw [hR]; exact Nat.le_of_ble_eq_true rfl⟩ (Nat.le_of_ble_eq_true rfl) dX0_init_48 ?_
  refine oi_aast (t := 1) (v := 34) hc ⟨Nat.le_of_ble_eq_true rfl, rfl⟩ rfl ⟨Nat.le_of_ble_eq_true rfl, rfl⟩ rfl (by decide) dX0_init_51 ?_
  refine og_iinc (v := 16) 0 [(4, .int 16), (0, .ref (n0 + 17)), (1, .ref (n0 + 1)), (2, .ref (n0 + 16)), (3, .ref (n0 + 3))] hc dX0_init_52 rfl (by decide) (Nat.le_of_ble_eq_true rfl) rfl ?_
  refine og_goto 31 hc dX0_init_55 (by decide) ?_
  refine og_iload 0 hc dX0_init_31 rfl ?_
  refine og_bipush (v := 20) hc dX0_init_33 (by decide) ?_
  refine og_icmp_ge 58 hc dX0_init_35 (by decide) (fun hh => absurd hh (by decide)) (fun _ => ?_)
  refine og_aload_n 1 hc dX0_init_38 rfl rfl ?_
  refine oi_getr (q := 18) hc FS_X0_25 rfl ⟨Nat.le_of_ble_eq_true rfl, rfl⟩ rfl dX0_init_39 ?_
  refine og_iload 0 hc dX0_init_42 rfl ?_
  refine oi_new hc NC_5 W_102 rfl ⟨by rw [hR]; exact Nat.le_of_ble_eq_true rfl, by rw [hR]; exact Nat.le_of_ble_eq_true rfl⟩ dX0_init_44 ?_
  show Og X _ Q (PsI _ D ids n0 _ _) 18 207 47 [(4, .int 16), (0, .ref (n0 + 17)), (1, .ref (n0 + 1)), (2, .ref (n0 + 16)), (3, .ref (n0 + 3))] [.ref (n0 + 35), .int 16, .ref (n0 + 18)]
  refine og_dup hc dX0_init_47 rfl ?_
  refine oi_call (k := 35) (As := []) (st := [.ref (n0 + 35), .int 16, .ref (n0 + 18)]) (fun n0 => [.ref (n0 + 35)]) hc SI_X0_29 (i_X5_init 35 _ _ rfl ⟨Nat.le_of_ble_eq_true rfl, rfl⟩) rfl rfl rfl ⟨by rw [hR]; exact Nat.le_of_ble_eq_true rfl, by rw [hR]; exact Nat.le_of_ble_eq_true rfl⟩ ⟨by rw [hR]; exact Nat.le_of_ble_eq_true rfl, by rw [hR]; exact Nat.le_of_ble_eq_true rfl⟩ (Nat.le_of_ble_eq_true rfl) dX0_init_48 ?_
  refine oi_aast (t := 1) (v := 35) hc ⟨Nat.le_of_ble_eq_true rfl, rfl⟩ rfl ⟨Nat.le_of_ble_eq_true rfl, rfl⟩ rfl (by decide) dX0_init_51 ?_
  refine og_iinc (v := 17) 0 [(4, .int 17), (0, .ref (n0 + 17)), (1, .ref (n0 + 1)), (2, .ref (n0 + 16)), (3, .ref (n0 + 3))] hc dX0_init_52 rfl (by decide) (Nat.le_of_ble_eq_true rfl) rfl ?_
  refine og_goto 31 hc dX0_init_55 (by decide) ?_
  refine og_iload 0 hc dX0_init_31 rfl ?_
  refine og_bipush (v := 20) hc dX0_init_33 (by decide) ?_
  refine og_icmp_ge 58 hc dX0_init_35 (by decide) (fun hh => absurd hh (by decide)) (fun _ => ?_)
  refine og_aload_n 1 hc dX0_init_38 rfl rfl ?_
  refine oi_getr (q := 18) hc FS_X0_25 rfl ⟨Nat.le_of_ble_eq_true rfl, rfl⟩ rfl dX0_init_39 ?_
  refine og_iload 0 hc dX0_init_42 rfl ?_
  refine oi_new hc NC_5 W_102 rfl ⟨by rw [hR]; exact Nat.le_of_ble_eq_true rfl, by rw [hR]; exact Nat.le_of_ble_eq_true rfl⟩ dX0_init_44 ?_
  show Og X _ Q (PsI _ D ids n0 _ _) 19 218 47 [(4, .int 17), (0, .ref (n0 + 17)), (1, .ref (n0 + 1)), (2, .ref (n0 + 16)), (3, .ref (n0 + 3))] [.ref (n0 + 36), .int 17, .ref (n0 + 18)]
  refine og_dup hc dX0_init_47 rfl ?_
  refine oi_call (k := 36) (As := []) (st := [.ref (n0 + 36), .int 17, .ref (n0 + 18)]) (fun n0 => [.ref (n0 + 36)]) hc SI_X0_29 (i_X5_init 36 _ _ rfl ⟨Nat.le_of_ble_eq_true rfl, rfl⟩) rfl rfl rfl ⟨by rw [hR]; exact Nat.le_of_ble_eq_true rfl, by rw [hR]; exact Nat.le_of_ble_eq_true rfl⟩ ⟨by rw [hR]; exact Nat.le_of_ble_eq_true rfl, by rw [hR]; exact Nat.le_of_ble_eq_true rfl⟩ (Nat.le_of_ble_eq_true rfl) dX0_init_48 ?_
  refine oi_aast (t := 1) (v := 36) hc ⟨Nat.le_of_ble_eq_true rfl, rfl⟩ rfl ⟨Nat.le_of_ble_eq_true rfl, rfl⟩ rfl (by decide) dX0_init_51 ?_
  refine og_iinc (v := 18) 0 [(4, .int 18), (0, .ref (n0 + 17)), (1, .ref (n0 + 1)), (2, .ref (n0 + 16)), (3, .ref (n0 + 3))] hc dX0_init_52 rfl (by decide) (Nat.le_of_ble_eq_true rfl) rfl ?_
  refine og_goto 31 hc dX0_init_55 (by decide) ?_
  refine og_iload 0 hc dX0_init_31 rfl ?_
  refine og_bipush (v := 20) hc dX0_init_33 (by decide) ?_
  refine og_icmp_ge 58 hc dX0_init_35 (by decide) (fun hh => absurd hh (by decide)) (fun _ => ?_)
  refine og_aload_n 1 hc dX0_init_38 rfl rfl ?_
  refine oi_getr (q := 18) hc FS_X0_25 rfl ⟨Nat.le_of_ble_eq_true rfl, rfl⟩ rfl dX0_init_39 ?_
  refine og_iload 0 hc dX0_init_42 rfl ?_
  refine oi_new hc NC_5 W_102 rfl ⟨by rw [hR]; exact Nat.le_of_ble_eq_true rfl, by rw [hR]; exact Nat.le_of_ble_eq_true rfl⟩ dX0_init_44 ?_
  show Og X _ Q (PsI _ D ids n0 _ _) 20 229 47 [(4, .int 18), (0, .ref (n0 + 17)), (1, .ref (n0 + 1)), (2, .ref (n0 + 16)), (3, .ref (n0 + 3))] [.ref (n0 + 37), .int 18, .ref (n0 + 18)]
  refine og_dup hc dX0_init_47 rfl ?_
  refine oi_call (k := 37) (As := []) (st := [.ref (n0 + 37), .int 18, .ref (n0 + 18)]) (fun n0 => [.ref (n0 + 37)]) hc SI_X0_29 (i_X5_init 37 _ _ rfl ⟨Nat.le_of_ble_eq_true rfl, rfl⟩) rfl rfl rfl ⟨by rw [hR]; exact Nat.le_of_ble_eq_true rfl, by rw [hR]; exact Nat.le_of_ble_eq_true rfl⟩ ⟨by rw [hR]; exact Nat.le_of_ble_eq_true rfl, by rw [hR]; exact Nat.le_of_ble_eq_true rfl⟩ (Nat.le_of_ble_eq_true rfl) dX0_init_48 ?_
  refine oi_aast (t := 1) (v := 37) hc ⟨Nat.le_of_ble_eq_true rfl, rfl⟩ rfl ⟨Nat.le_of_ble_eq_true rfl, rfl⟩ rfl (by decide) dX0_init_51 ?_
  refine og_iinc (v := 19) 0 [(4, .int 19), (0, .ref (n0 + 17)), (1, .ref (n0 + 1)), (2, .ref (n0 + 16)), (3, .ref (n0 + 3))] hc dX0_init_52 rfl (by decide) (Nat.le_of_ble_eq_true rfl) rfl ?_
  refine og_goto 31 hc dX0_init_55 (by decide) ?_
  refine og_iload 0 hc dX0_init_31 rfl ?_
  refine og_bipush (v := 20) hc dX0_init_33 (by decide) ?_
  refine og_icmp_ge 58 hc dX0_init_35 (by decide) (fun hh => absurd hh (by decide)) (fun _ => ?_)
  refine og_aload_n 1 hc dX0_init_38 rfl rfl ?_
  refine oi_getr (q := 18) hc FS_X0_25 rfl ⟨Nat.le_of_ble_eq_true rfl, rfl⟩ rfl dX0_init_39 ?_
  refine og_iload 0 hc dX0_init_42 rfl ?_
  refine oi_new hc NC_5 W_102 rfl ⟨by rw [hR]; exact Nat.le_of_ble_eq_true rfl, by rw [hR]; exact Nat.le_of_ble_eq_true rfl⟩ dX0_init_44 ?_
  show Og X _ Q (PsI _ D ids n0 _ _) 21 240 47 [(4, .int 19), (0, .ref (n0 + 17)), (1, .ref (n0 + 1)), (2, .ref (n0 + 16)), (3, .ref (n0 + 3))] [.ref (n0 + 38), .int 19, .ref (n0 + 18)]
  refine og_dup hc dX0_init_47 rfl ?_
  refine oi_call (k := 38) (As := []) (st := [.ref (n0 + 38), .int 19, .ref (n0 + 18)]) (fun n0 => [.ref (n0 + 38)]) hc SI_X0_29 (i_X5_init 38 _ _ rfl ⟨Nat.le_of_ble_eq_true rfl, rfl⟩) rfl rfl rfl ⟨by rw [hR]; exact Nat.le_of_ble_eq_true rfl, by rw [hR]; exact Nat.le_of_ble_eq_true rfl⟩ ⟨by rw [hR]; exact Nat.le_of_ble_eq_true rfl, by rw [hR]; exact Nat.le_of_ble_eq_true rfl⟩ (Nat.le_of_ble_eq_true rfl) dX0_init_48 ?_
  refine oi_aast (t := 1) (v := 38) hc ⟨Nat.le_of_ble_eq_true rfl, rfl⟩ rfl ⟨Nat.le_of_ble_eq_true rfl, rfl⟩ rfl (by decide) dX0_init_51 ?_
  refine og_iinc (v := 20) 0 [(4, .int 20), (0, .ref (n0 + 17)), (1, .ref (n0 + 1)), (2, .ref (n0 + 16)), (3, .ref (n0 + 3))] hc dX0_init_52 rfl (by decide) (Nat.le_of_ble_eq_true rfl) rfl ?_
  refine og_goto 31 hc dX0_init_55 (by decide) ?_
  refine og_iload 0 hc dX0_init_31 rfl ?_
  refine og_bipush (v := 20) hc dX0_init_33 (by decide) ?_
  refine og_icmp_ge 58 hc dX0_init_35 (by decide) (fun _ => ?_) (fun hh => absurd (by decide) hh)
  refine og_aload_n 1 hc dX0_init_58 rfl rfl ?_
  refine og_bipush (v := 20) hc dX0_init_59 (by decide) ?_
  refine oi_newi (N := 20) hc W_42 rfl (by decide) (by decide) (by decide) ⟨by rw [hR]; exact Nat.le_of_ble_eq_true rfl, by rw [hR]; exact Nat.le_of_ble_eq_true rfl⟩ dX0_init_61 ?_
  show Og X _ Q (PsI _ D ids n0 _ _) 22 260 63 [(4, .int 20), (0, .ref (n0 + 17)), (1, .ref (n0 + 1)), (2, .ref (n0 + 16)), (3, .ref (n0 + 3))] [.ref (n0 + 39), .ref (n0 + 17)]
  refine oi_putr (q := 39) hc hin FF_X0_30 rfl ⟨Nat.le_of_ble_eq_true rfl, rfl⟩ dX0_init_63 ?_
  refine og_aload_n 1 hc dX0_init_66 rfl rfl ?_
  refine og_bipush (v := 20) hc dX0_init_67 (by decide) ?_
  refine oi_newi (N := 20) hc W_42 rfl (by decide) (by decide) (by decide) ⟨by rw [hR]; exact Nat.le_of_ble_eq_true rfl, by rw [hR]; exact Nat.le_of_ble_eq_true rfl⟩ dX0_init_69 ?_
  show Og X _ Q (PsI _ D ids n0 _ _) 23 280 71 [(4, .int 20), (0, .ref (n0 + 17)), (1, .ref (n0 + 1)), (2, .ref (n0 + 16)), (3, .ref (n0 + 3))] [.ref (n0 + 40), .ref (n0 + 17)]
  refine oi_putr (q := 40) hc hin FF_X0_34 rfl ⟨Nat.le_of_ble_eq_true rfl, rfl⟩ dX0_init_71 ?_
  exact hend _ _ dX0_init_74
def iW_X4_init (w : Wx) : Wx := wR (wN (wR (wN (wR (wN (wR (wN (wR (wN (wR (wN (wR (wR (w) 41 0 1) 41 1 17)) 41 2 42)) 41 3 43)) 41 4 44)) 41 5 45)) 41 6 46)) 41 7 47
def iS_X4_init (S : St) : St := S
set_option maxRecDepth 100000 in
set_option maxHeartbeats 8000000 in
theorem i_X4_init (w : Wx) (S : St) (h1 : w.1 = wX.1) (h2 : w.2.1 = 42) : MI mX4_init (fun n0 => [.ref (n0 + 41), .ref (n0 + 1), .ref (n0 + 17)]) w S (iW_X4_init w) (iS_X4_init S) := by
  obtain ⟨sh, N, ρ⟩ := w
  dsimp only at h1 h2
  subst h1; subst h2
  refine mi_of (show plainFor yX4_init = true from by decide) rfl rfl (fun _ => Nat.le_of_ble_eq_true rfl) ?_
  intro X D ids n0 Q hc hin hR hend
  show Og X _ Q (PsI _ D ids n0 _ _) 0 0 0 [(0, .ref (n0 + 41)), (1, .ref (n0 + 1)), (2, .ref (n0 + 17))] []
  refine og_aload_n 0 hc dX4_init_0 rfl rfl ?_
  refine og_objInit hc W_207 W_24 W_25 (by rw [hR]; exact Nat.le_of_ble_eq_true rfl) (by rw [hR]; exact Nat.le_of_ble_eq_true rfl) dX4_init_1 ?_
  refine og_aload_n 0 hc dX4_init_4 rfl rfl ?_
  refine og_aload_n 1 hc dX4_init_5 rfl rfl ?_
  refine oi_putr (q := 1) hc hin FF_X4_9 rfl ⟨Nat.le_of_ble_eq_true rfl, rfl⟩ dX4_init_6 ?_
  refine og_aload_n 0 hc dX4_init_9 rfl rfl ?_
  refine og_aload_n 2 hc dX4_init_10 rfl rfl ?_
  refine oi_putr (q := 17) hc hin FF_X4_15 rfl ⟨Nat.le_of_ble_eq_true rfl, rfl⟩ dX4_init_11 ?_
  refine og_aload_n 0 hc dX4_init_14 rfl rfl ?_
  refine og_bipush (v := 8) hc dX4_init_15 (by decide) ?_
  refine oi_newi (N := 8) hc W_42 rfl (by decide) (by decide) (by decide) ⟨by rw [hR]; exact Nat.le_of_ble_eq_true rfl, by rw [hR]; exact Nat.le_of_ble_eq_true rfl⟩ dX4_init_17 ?_
  show Og X _ Q (PsI _ D ids n0 _ _) 1 8 19 [(0, .ref (n0 + 41)), (1, .ref (n0 + 1)), (2, .ref (n0 + 17))] [.ref (n0 + 42), .ref (n0 + 41)]
  refine oi_putr (q := 42) hc hin FF_X4_19 rfl ⟨Nat.le_of_ble_eq_true rfl, rfl⟩ dX4_init_19 ?_
  refine og_aload_n 0 hc dX4_init_22 rfl rfl ?_
  refine og_bipush (v := 64) hc dX4_init_23 (by decide) ?_
  refine oi_newi (N := 64) hc W_42 rfl (by decide) (by decide) (by decide) ⟨by rw [hR]; exact Nat.le_of_ble_eq_true rfl, by rw [hR]; exact Nat.le_of_ble_eq_true rfl⟩ dX4_init_25 ?_
  show Og X _ Q (PsI _ D ids n0 _ _) 2 72 27 [(0, .ref (n0 + 41)), (1, .ref (n0 + 1)), (2, .ref (n0 + 17))] [.ref (n0 + 43), .ref (n0 + 41)]
  refine oi_putr (q := 43) hc hin FF_X4_23 rfl ⟨Nat.le_of_ble_eq_true rfl, rfl⟩ dX4_init_27 ?_
  refine og_aload_n 0 hc dX4_init_30 rfl rfl ?_
  refine og_sipush (v := 256) hc dX4_init_31 (by decide) ?_
  refine oi_newz (N := 256) hc W_240 rfl (by decide) (by decide) (by decide) ⟨by rw [hR]; exact Nat.le_of_ble_eq_true rfl, by rw [hR]; exact Nat.le_of_ble_eq_true rfl⟩ dX4_init_34 ?_
  show Og X _ Q (PsI _ D ids n0 _ _) 3 328 36 [(0, .ref (n0 + 41)), (1, .ref (n0 + 1)), (2, .ref (n0 + 17))] [.ref (n0 + 44), .ref (n0 + 41)]
  refine oi_putr (q := 44) hc hin FF_X4_26 rfl ⟨Nat.le_of_ble_eq_true rfl, rfl⟩ dX4_init_36 ?_
  refine og_aload_n 0 hc dX4_init_39 rfl rfl ?_
  refine og_sipush (v := 256) hc dX4_init_40 (by decide) ?_
  refine oi_newi (N := 256) hc W_42 rfl (by decide) (by decide) (by decide) ⟨by rw [hR]; exact Nat.le_of_ble_eq_true rfl, by rw [hR]; exact Nat.le_of_ble_eq_true rfl⟩ dX4_init_43 ?_
  show Og X _ Q (PsI _ D ids n0 _ _) 4 584 45 [(0, .ref (n0 + 41)), (1, .ref (n0 + 1)), (2, .ref (n0 + 17))] [.ref (n0 + 45), .ref (n0 + 41)]
  refine oi_putr (q := 45) hc hin FF_X4_30 rfl ⟨Nat.le_of_ble_eq_true rfl, rfl⟩ dX4_init_45 ?_
  refine og_aload_n 0 hc dX4_init_48 rfl rfl ?_
  refine og_bipush (v := 8) hc dX4_init_49 (by decide) ?_
  refine oi_newi (N := 8) hc W_42 rfl (by decide) (by decide) (by decide) ⟨by rw [hR]; exact Nat.le_of_ble_eq_true rfl, by rw [hR]; exact Nat.le_of_ble_eq_true rfl⟩ dX4_init_51 ?_
  show Og X _ Q (PsI _ D ids n0 _ _) 5 592 53 [(0, .ref (n0 + 41)), (1, .ref (n0 + 1)), (2, .ref (n0 + 17))] [.ref (n0 + 46), .ref (n0 + 41)]
  refine oi_putr (q := 46) hc hin FF_X4_33 rfl ⟨Nat.le_of_ble_eq_true rfl, rfl⟩ dX4_init_53 ?_
  refine og_aload_n 0 hc dX4_init_56 rfl rfl ?_
  refine og_bipush (v := 8) hc dX4_init_57 (by decide) ?_
  refine oi_newi (N := 8) hc W_42 rfl (by decide) (by decide) (by decide) ⟨by rw [hR]; exact Nat.le_of_ble_eq_true rfl, by rw [hR]; exact Nat.le_of_ble_eq_true rfl⟩ dX4_init_59 ?_
  show Og X _ Q (PsI _ D ids n0 _ _) 6 600 61 [(0, .ref (n0 + 41)), (1, .ref (n0 + 1)), (2, .ref (n0 + 17))] [.ref (n0 + 47), .ref (n0 + 41)]
  refine oi_putr (q := 47) hc hin FF_X4_36 rfl ⟨Nat.le_of_ble_eq_true rfl, rfl⟩ dX4_init_61 ?_
  exact hend _ _ dX4_init_64
def iW_X3_init (w : Wx) : Wx := wR (wN (wR (wN (wR (wN (wR (wN (wR (wN (wR (wN (wR (wN (wR (wR (w) 48 0 1) 48 1 17)) 48 2 49)) 48 3 50)) 48 4 51)) 48 5 52)) 48 6 53)) 48 7 54)) 48 8 55
def iS_X3_init (S : St) : St := S
set_option maxRecDepth 100000 in
set_option maxHeartbeats 8000000 in
theorem i_X3_init (w : Wx) (S : St) (h1 : w.1 = wX.1) (h2 : w.2.1 = 49) : MI mX3_init (fun n0 => [.ref (n0 + 48), .ref (n0 + 1), .ref (n0 + 17)]) w S (iW_X3_init w) (iS_X3_init S) := by
  obtain ⟨sh, N, ρ⟩ := w
  dsimp only at h1 h2
  subst h1; subst h2
  refine mi_of (show plainFor yX3_init = true from by decide) rfl rfl (fun _ => Nat.le_of_ble_eq_true rfl) ?_
  intro X D ids n0 Q hc hin hR hend
  show Og X _ Q (PsI _ D ids n0 _ _) 0 0 0 [(0, .ref (n0 + 48)), (1, .ref (n0 + 1)), (2, .ref (n0 + 17))] []
  refine og_aload_n 0 hc dX3_init_0 rfl rfl ?_
  refine og_objInit hc W_246 W_24 W_25 (by rw [hR]; exact Nat.le_of_ble_eq_true rfl) (by rw [hR]; exact Nat.le_of_ble_eq_true rfl) dX3_init_1 ?_
  refine og_aload_n 0 hc dX3_init_4 rfl rfl ?_
  refine og_aload_n 1 hc dX3_init_5 rfl rfl ?_
  refine oi_putr (q := 1) hc hin FF_X3_7 rfl ⟨Nat.le_of_ble_eq_true rfl, rfl⟩ dX3_init_6 ?_
  refine og_aload_n 0 hc dX3_init_9 rfl rfl ?_
  refine og_aload_n 2 hc dX3_init_10 rfl rfl ?_
  refine oi_putr (q := 17) hc hin FF_X3_13 rfl ⟨Nat.le_of_ble_eq_true rfl, rfl⟩ dX3_init_11 ?_
  refine og_aload_n 0 hc dX3_init_14 rfl rfl ?_
  refine og_bipush (v := 20) hc dX3_init_15 (by decide) ?_
  refine oi_newi (N := 20) hc W_42 rfl (by decide) (by decide) (by decide) ⟨by rw [hR]; exact Nat.le_of_ble_eq_true rfl, by rw [hR]; exact Nat.le_of_ble_eq_true rfl⟩ dX3_init_17 ?_
  show Og X _ Q (PsI _ D ids n0 _ _) 1 20 19 [(0, .ref (n0 + 48)), (1, .ref (n0 + 1)), (2, .ref (n0 + 17))] [.ref (n0 + 49), .ref (n0 + 48)]
  refine oi_putr (q := 49) hc hin FF_X3_19 rfl ⟨Nat.le_of_ble_eq_true rfl, rfl⟩ dX3_init_19 ?_
  refine og_aload_n 0 hc dX3_init_22 rfl rfl ?_
  refine og_sipush (v := 400) hc dX3_init_23 (by decide) ?_
  refine oi_newi (N := 400) hc W_42 rfl (by decide) (by decide) (by decide) ⟨by rw [hR]; exact Nat.le_of_ble_eq_true rfl, by rw [hR]; exact Nat.le_of_ble_eq_true rfl⟩ dX3_init_26 ?_
  show Og X _ Q (PsI _ D ids n0 _ _) 2 420 28 [(0, .ref (n0 + 48)), (1, .ref (n0 + 1)), (2, .ref (n0 + 17))] [.ref (n0 + 50), .ref (n0 + 48)]
  refine oi_putr (q := 50) hc hin FF_X3_23 rfl ⟨Nat.le_of_ble_eq_true rfl, rfl⟩ dX3_init_28 ?_
  refine og_aload_n 0 hc dX3_init_31 rfl rfl ?_
  refine og_sipush (v := 400) hc dX3_init_32 (by decide) ?_
  refine oi_newi (N := 400) hc W_42 rfl (by decide) (by decide) (by decide) ⟨by rw [hR]; exact Nat.le_of_ble_eq_true rfl, by rw [hR]; exact Nat.le_of_ble_eq_true rfl⟩ dX3_init_35 ?_
  show Og X _ Q (PsI _ D ids n0 _ _) 3 820 37 [(0, .ref (n0 + 48)), (1, .ref (n0 + 1)), (2, .ref (n0 + 17))] [.ref (n0 + 51), .ref (n0 + 48)]
  refine oi_putr (q := 51) hc hin FF_X3_26 rfl ⟨Nat.le_of_ble_eq_true rfl, rfl⟩ dX3_init_37 ?_
  refine og_aload_n 0 hc dX3_init_40 rfl rfl ?_
  refine og_bipush (v := 20) hc dX3_init_41 (by decide) ?_
  refine oi_newi (N := 20) hc W_42 rfl (by decide) (by decide) (by decide) ⟨by rw [hR]; exact Nat.le_of_ble_eq_true rfl, by rw [hR]; exact Nat.le_of_ble_eq_true rfl⟩ dX3_init_43 ?_
  show Og X _ Q (PsI _ D ids n0 _ _) 4 840 45 [(0, .ref (n0 + 48)), (1, .ref (n0 + 1)), (2, .ref (n0 + 17))] [.ref (n0 + 52), .ref (n0 + 48)]
  refine oi_putr (q := 52) hc hin FF_X3_29 rfl ⟨Nat.le_of_ble_eq_true rfl, rfl⟩ dX3_init_45 ?_
  refine og_aload_n 0 hc dX3_init_48 rfl rfl ?_
  refine og_bipush (v := 20) hc dX3_init_49 (by decide) ?_
  refine oi_newi (N := 20) hc W_42 rfl (by decide) (by decide) (by decide) ⟨by rw [hR]; exact Nat.le_of_ble_eq_true rfl, by rw [hR]; exact Nat.le_of_ble_eq_true rfl⟩ dX3_init_51 ?_
  show Og X _ Q (PsI _ D ids n0 _ _) 5 860 53 [(0, .ref (n0 + 48)), (1, .ref (n0 + 1)), (2, .ref (n0 + 17))] [.ref (n0 + 53), .ref (n0 + 48)]
  refine oi_putr (q := 53) hc hin FF_X3_32 rfl ⟨Nat.le_of_ble_eq_true rfl, rfl⟩ dX3_init_53 ?_
  refine og_aload_n 0 hc dX3_init_56 rfl rfl ?_
  refine og_bipush (v := 20) hc dX3_init_57 (by decide) ?_
  refine oi_newi (N := 20) hc W_42 rfl (by decide) (by decide) (by decide) ⟨by rw [hR]; exact Nat.le_of_ble_eq_true rfl, by rw [hR]; exact Nat.le_of_ble_eq_true rfl⟩ dX3_init_59 ?_
  show Og X _ Q (PsI _ D ids n0 _ _) 6 880 61 [(0, .ref (n0 + 48)), (1, .ref (n0 + 1)), (2, .ref (n0 + 17))] [.ref (n0 + 54), .ref (n0 + 48)]
  refine oi_putr (q := 54) hc hin FF_X3_35 rfl ⟨Nat.le_of_ble_eq_true rfl, rfl⟩ dX3_init_61 ?_
  refine og_aload_n 0 hc dX3_init_64 rfl rfl ?_
  refine og_bipush (v := 20) hc dX3_init_65 (by decide) ?_
  refine oi_newi (N := 20) hc W_42 rfl (by decide) (by decide) (by decide) ⟨by rw [hR]; exact Nat.le_of_ble_eq_true rfl, by rw [hR]; exact Nat.le_of_ble_eq_true rfl⟩ dX3_init_67 ?_
  show Og X _ Q (PsI _ D ids n0 _ _) 7 900 69 [(0, .ref (n0 + 48)), (1, .ref (n0 + 1)), (2, .ref (n0 + 17))] [.ref (n0 + 55), .ref (n0 + 48)]
  refine oi_putr (q := 55) hc hin FF_X3_38 rfl ⟨Nat.le_of_ble_eq_true rfl, rfl⟩ dX3_init_69 ?_
  exact hend _ _ dX3_init_72
def iW_X1_init (w : Wx) : Wx := wR (wN (wR (wN (w)) 56 0 57)) 56 1 58
def iS_X1_init (S : St) : St := S
set_option maxRecDepth 100000 in
set_option maxHeartbeats 8000000 in
theorem i_X1_init (w : Wx) (S : St) (h1 : w.1 = wX.1) (h2 : w.2.1 = 57) : MI mX1_init (fun n0 => [.ref (n0 + 56)]) w S (iW_X1_init w) (iS_X1_init S) := by
  obtain ⟨sh, N, ρ⟩ := w
  dsimp only at h1 h2
  subst h1; subst h2
  refine mi_of (show plainFor yX1_init = true from by decide) rfl rfl (fun _ => Nat.le_of_ble_eq_true rfl) ?_
  intro X D ids n0 Q hc hin hR hend
  show Og X _ Q (PsI _ D ids n0 _ _) 0 0 0 [(0, .ref (n0 + 56))] []
  refine og_aload_n 0 hc dX1_init_0 rfl rfl ?_
  refine og_objInit hc W_287 W_24 W_25 (by rw [hR]; exact Nat.le_of_ble_eq_true rfl) (by rw [hR]; exact Nat.le_of_ble_eq_true rfl) dX1_init_1 ?_
  refine og_aload_n 0 hc dX1_init_4 rfl rfl ?_
  refine og_bipush (v := 8) hc dX1_init_5 (by decide) ?_
  refine oi_newi (N := 8) hc W_42 rfl (by decide) (by decide) (by decide) ⟨by rw [hR]; exact Nat.le_of_ble_eq_true rfl, by rw [hR]; exact Nat.le_of_ble_eq_true rfl⟩ dX1_init_7 ?_
  show Og X _ Q (PsI _ D ids n0 _ _) 1 8 9 [(0, .ref (n0 + 56))] [.ref (n0 + 57), .ref (n0 + 56)]
  refine oi_putr (q := 57) hc hin FF_X1_9 rfl ⟨Nat.le_of_ble_eq_true rfl, rfl⟩ dX1_init_9 ?_
  refine og_aload_n 0 hc dX1_init_12 rfl rfl ?_
  refine og_bipush (v := 8) hc dX1_init_13 (by decide) ?_
  refine oi_newi (N := 8) hc W_42 rfl (by decide) (by decide) (by decide) ⟨by rw [hR]; exact Nat.le_of_ble_eq_true rfl, by rw [hR]; exact Nat.le_of_ble_eq_true rfl⟩ dX1_init_15 ?_
  show Og X _ Q (PsI _ D ids n0 _ _) 2 16 17 [(0, .ref (n0 + 56))] [.ref (n0 + 58), .ref (n0 + 56)]
  refine oi_putr (q := 58) hc hin FF_X1_13 rfl ⟨Nat.le_of_ble_eq_true rfl, rfl⟩ dX1_init_17 ?_
  exact hend _ _ dX1_init_20
def iW_X7_init (w : Wx) : Wx := wR (wN (wR (wN (wR (wN (wR (wN (wR (wN (wR (wN (wR (wN (w)) 59 0 60)) 59 1 61)) 59 2 62)) 59 3 63)) 59 4 64)) 59 5 65)) 59 6 66
def iS_X7_init (S : St) : St := S
set_option maxRecDepth 100000 in
set_option maxHeartbeats 8000000 in
theorem i_X7_init (w : Wx) (S : St) (h1 : w.1 = wX.1) (h2 : w.2.1 = 60) : MI mX7_init (fun n0 => [.ref (n0 + 59)]) w S (iW_X7_init w) (iS_X7_init S) := by
  obtain ⟨sh, N, ρ⟩ := w
  dsimp only at h1 h2
  subst h1; subst h2
  refine mi_of (show plainFor yX7_init = true from by decide) rfl rfl (fun _ => Nat.le_of_ble_eq_true rfl) ?_
  intro X D ids n0 Q hc hin hR hend
  show Og X _ Q (PsI _ D ids n0 _ _) 0 0 0 [(0, .ref (n0 + 59))] []
  refine og_aload_n 0 hc dX7_init_0 rfl rfl ?_
  refine og_objInit hc W_304 W_24 W_25 (by rw [hR]; exact Nat.le_of_ble_eq_true rfl) (by rw [hR]; exact Nat.le_of_ble_eq_true rfl) dX7_init_1 ?_
  refine og_aload_n 0 hc dX7_init_4 rfl rfl ?_
  refine og_bipush (v := 120) hc dX7_init_5 (by decide) ?_
  refine oi_newi (N := 120) hc W_42 rfl (by decide) (by decide) (by decide) ⟨by rw [hR]; exact Nat.le_of_ble_eq_true rfl, by rw [hR]; exact Nat.le_of_ble_eq_true rfl⟩ dX7_init_7 ?_
  show Og X _ Q (PsI _ D ids n0 _ _) 1 120 9 [(0, .ref (n0 + 59))] [.ref (n0 + 60), .ref (n0 + 59)]
  refine oi_putr (q := 60) hc hin FF_X7_11 rfl ⟨Nat.le_of_ble_eq_true rfl, rfl⟩ dX7_init_9 ?_
  refine og_aload_n 0 hc dX7_init_12 rfl rfl ?_
  refine og_bipush (v := 25) hc dX7_init_13 (by decide) ?_
  refine oi_newz (N := 25) hc W_240 rfl (by decide) (by decide) (by decide) ⟨by rw [hR]; exact Nat.le_of_ble_eq_true rfl, by rw [hR]; exact Nat.le_of_ble_eq_true rfl⟩ dX7_init_15 ?_
  show Og X _ Q (PsI _ D ids n0 _ _) 2 145 17 [(0, .ref (n0 + 59))] [.ref (n0 + 61), .ref (n0 + 59)]
  refine oi_putr (q := 61) hc hin FF_X7_15 rfl ⟨Nat.le_of_ble_eq_true rfl, rfl⟩ dX7_init_17 ?_
  refine og_aload_n 0 hc dX7_init_20 rfl rfl ?_
  refine og_bipush (v := 25) hc dX7_init_21 (by decide) ?_
  refine oi_newi (N := 25) hc W_42 rfl (by decide) (by decide) (by decide) ⟨by rw [hR]; exact Nat.le_of_ble_eq_true rfl, by rw [hR]; exact Nat.le_of_ble_eq_true rfl⟩ dX7_init_23 ?_
  show Og X _ Q (PsI _ D ids n0 _ _) 3 170 25 [(0, .ref (n0 + 59))] [.ref (n0 + 62), .ref (n0 + 59)]
  refine oi_putr (q := 62) hc hin FF_X7_19 rfl ⟨Nat.le_of_ble_eq_true rfl, rfl⟩ dX7_init_25 ?_
  refine og_aload_n 0 hc dX7_init_28 rfl rfl ?_
  refine og_bipush (v := 25) hc dX7_init_29 (by decide) ?_
  refine oi_newi (N := 25) hc W_42 rfl (by decide) (by decide) (by decide) ⟨by rw [hR]; exact Nat.le_of_ble_eq_true rfl, by rw [hR]; exact Nat.le_of_ble_eq_true rfl⟩ dX7_init_31 ?_
  show Og X _ Q (PsI _ D ids n0 _ _) 4 195 33 [(0, .ref (n0 + 59))] [.ref (n0 + 63), .ref (n0 + 59)]
  refine oi_putr (q := 63) hc hin FF_X7_22 rfl ⟨Nat.le_of_ble_eq_true rfl, rfl⟩ dX7_init_33 ?_
  refine og_aload_n 0 hc dX7_init_36 rfl rfl ?_
  refine og_bipush (v := 25) hc dX7_init_37 (by decide) ?_
  refine oi_newi (N := 25) hc W_42 rfl (by decide) (by decide) (by decide) ⟨by rw [hR]; exact Nat.le_of_ble_eq_true rfl, by rw [hR]; exact Nat.le_of_ble_eq_true rfl⟩ dX7_init_39 ?_
  show Og X _ Q (PsI _ D ids n0 _ _) 5 220 41 [(0, .ref (n0 + 59))] [.ref (n0 + 64), .ref (n0 + 59)]
  refine oi_putr (q := 64) hc hin FF_X7_25 rfl ⟨Nat.le_of_ble_eq_true rfl, rfl⟩ dX7_init_41 ?_
  refine og_aload_n 0 hc dX7_init_44 rfl rfl ?_
  refine og_bipush (v := 25) hc dX7_init_45 (by decide) ?_
  refine oi_newi (N := 25) hc W_42 rfl (by decide) (by decide) (by decide) ⟨by rw [hR]; exact Nat.le_of_ble_eq_true rfl, by rw [hR]; exact Nat.le_of_ble_eq_true rfl⟩ dX7_init_47 ?_
  show Og X _ Q (PsI _ D ids n0 _ _) 6 245 49 [(0, .ref (n0 + 59))] [.ref (n0 + 65), .ref (n0 + 59)]
  refine oi_putr (q := 65) hc hin FF_X7_28 rfl ⟨Nat.le_of_ble_eq_true rfl, rfl⟩ dX7_init_49 ?_
  refine og_aload_n 0 hc dX7_init_52 rfl rfl ?_
  refine og_bipush (v := 25) hc dX7_init_53 (by decide) ?_
  refine oi_newi (N := 25) hc W_42 rfl (by decide) (by decide) (by decide) ⟨by rw [hR]; exact Nat.le_of_ble_eq_true rfl, by rw [hR]; exact Nat.le_of_ble_eq_true rfl⟩ dX7_init_55 ?_
  show Og X _ Q (PsI _ D ids n0 _ _) 7 270 57 [(0, .ref (n0 + 59))] [.ref (n0 + 66), .ref (n0 + 59)]
  refine oi_putr (q := 66) hc hin FF_X7_31 rfl ⟨Nat.le_of_ble_eq_true rfl, rfl⟩ dX7_init_57 ?_
  exact hend _ _ dX7_init_60
def iW_X10_init (w : Wx) : Wx := wR (wN (wR (wN (wR (w) 67 0 16)) 67 1 68)) 67 2 69
def iS_X10_init (S : St) : St := S
set_option maxRecDepth 100000 in
set_option maxHeartbeats 8000000 in
theorem i_X10_init (w : Wx) (S : St) (h1 : w.1 = wX.1) (h2 : w.2.1 = 68) : MI mX10_init (fun n0 => [.ref (n0 + 67), .ref (n0 + 16)]) w S (iW_X10_init w) (iS_X10_init S) := by
  obtain ⟨sh, N, ρ⟩ := w
  dsimp only at h1 h2
  subst h1; subst h2
  refine mi_of (show plainFor yX10_init = true from by decide) rfl rfl (fun _ => Nat.le_of_ble_eq_true rfl) ?_
  intro X D ids n0 Q hc hin hR hend
  show Og X _ Q (PsI _ D ids n0 _ _) 0 0 0 [(0, .ref (n0 + 67)), (1, .ref (n0 + 16))] []
  refine og_aload_n 0 hc dX10_init_0 rfl rfl ?_
  refine og_objInit hc W_347 W_24 W_25 (by rw [hR]; exact Nat.le_of_ble_eq_true rfl) (by rw [hR]; exact Nat.le_of_ble_eq_true rfl) dX10_init_1 ?_
  refine og_aload_n 0 hc dX10_init_4 rfl rfl ?_
  refine og_aload_n 1 hc dX10_init_5 rfl rfl ?_
  refine oi_putr (q := 16) hc hin FF_X10_9 rfl ⟨Nat.le_of_ble_eq_true rfl, rfl⟩ dX10_init_6 ?_
  refine og_aload_n 0 hc dX10_init_9 rfl rfl ?_
  refine og_bipush (v := 8) hc dX10_init_10 (by decide) ?_
  refine oi_newi (N := 8) hc W_42 rfl (by decide) (by decide) (by decide) ⟨by rw [hR]; exact Nat.le_of_ble_eq_true rfl, by rw [hR]; exact Nat.le_of_ble_eq_true rfl⟩ dX10_init_12 ?_
  show Og X _ Q (PsI _ D ids n0 _ _) 1 8 14 [(0, .ref (n0 + 67)), (1, .ref (n0 + 16))] [.ref (n0 + 68), .ref (n0 + 67)]
  refine oi_putr (q := 68) hc hin FF_X10_15 rfl ⟨Nat.le_of_ble_eq_true rfl, rfl⟩ dX10_init_14 ?_
  refine og_aload_n 0 hc dX10_init_17 rfl rfl ?_
  refine og_bipush (v := 8) hc dX10_init_18 (by decide) ?_
  refine oi_newi (N := 8) hc W_42 rfl (by decide) (by decide) (by decide) ⟨by rw [hR]; exact Nat.le_of_ble_eq_true rfl, by rw [hR]; exact Nat.le_of_ble_eq_true rfl⟩ dX10_init_20 ?_
  show Og X _ Q (PsI _ D ids n0 _ _) 2 16 22 [(0, .ref (n0 + 67)), (1, .ref (n0 + 16))] [.ref (n0 + 69), .ref (n0 + 67)]
  refine oi_putr (q := 69) hc hin FF_X10_19 rfl ⟨Nat.le_of_ble_eq_true rfl, rfl⟩ dX10_init_22 ?_
  exact hend _ _ dX10_init_25
def iW_X9_init (w : Wx) : Wx := wR (wN (wR (wN (wR (wN (wR (wN (wR (wN (wR (wN (wR (wN (wR (wR (w) 70 0 1) 70 1 16)) 70 2 71)) 70 3 72)) 70 4 73)) 70 5 74)) 70 6 75)) 70 7 76)) 70 8 77
def iS_X9_init (S : St) : St := S
set_option maxRecDepth 100000 in
set_option maxHeartbeats 8000000 in
theorem i_X9_init (w : Wx) (S : St) (h1 : w.1 = wX.1) (h2 : w.2.1 = 71) : MI mX9_init (fun n0 => [.ref (n0 + 70), .ref (n0 + 1), .ref (n0 + 16)]) w S (iW_X9_init w) (iS_X9_init S) := by
  obtain ⟨sh, N, ρ⟩ := w
  dsimp only at h1 h2
  subst h1; subst h2
  refine mi_of (show plainFor yX9_init = true from by decide) rfl rfl (fun _ => Nat.le_of_ble_eq_true rfl) ?_
  intro X D ids n0 Q hc hin hR hend
  show Og X _ Q (PsI _ D ids n0 _ _) 0 0 0 [(0, .ref (n0 + 70)), (1, .ref (n0 + 1)), (2, .ref (n0 + 16))] []
  refine og_aload_n 0 hc dX9_init_0 rfl rfl ?_
  refine og_objInit hc W_369 W_24 W_25 (by rw [hR]; exact Nat.le_of_ble_eq_true rfl) (by rw [hR]; exact Nat.le_of_ble_eq_true rfl) dX9_init_1 ?_
  refine og_aload_n 0 hc dX9_init_4 rfl rfl ?_
  refine og_aload_n 1 hc dX9_init_5 rfl rfl ?_
  refine oi_putr (q := 1) hc hin FF_X9_9 rfl ⟨Nat.le_of_ble_eq_true rfl, rfl⟩ dX9_init_6 ?_
  refine og_aload_n 0 hc dX9_init_9 rfl rfl ?_
  refine og_aload_n 2 hc dX9_init_10 rfl rfl ?_
  refine oi_putr (q := 16) hc hin FF_X9_13 rfl ⟨Nat.le_of_ble_eq_true rfl, rfl⟩ dX9_init_11 ?_
  refine og_aload_n 0 hc dX9_init_14 rfl rfl ?_
  refine og_bipush (v := 6) hc dX9_init_15 (by decide) ?_
  refine oi_newi (N := 6) hc W_42 rfl (by decide) (by decide) (by decide) ⟨by rw [hR]; exact Nat.le_of_ble_eq_true rfl, by rw [hR]; exact Nat.le_of_ble_eq_true rfl⟩ dX9_init_17 ?_
  show Og X _ Q (PsI _ D ids n0 _ _) 1 6 19 [(0, .ref (n0 + 70)), (1, .ref (n0 + 1)), (2, .ref (n0 + 16))] [.ref (n0 + 71), .ref (n0 + 70)]
  refine oi_putr (q := 71) hc hin FF_X9_17 rfl ⟨Nat.le_of_ble_eq_true rfl, rfl⟩ dX9_init_19 ?_
  refine og_aload_n 0 hc dX9_init_22 rfl rfl ?_
  refine og_bipush (v := 6) hc dX9_init_23 (by decide) ?_
  refine oi_newi (N := 6) hc W_42 rfl (by decide) (by decide) (by decide) ⟨by rw [hR]; exact Nat.le_of_ble_eq_true rfl, by rw [hR]; exact Nat.le_of_ble_eq_true rfl⟩ dX9_init_25 ?_
  show Og X _ Q (PsI _ D ids n0 _ _) 2 12 27 [(0, .ref (n0 + 70)), (1, .ref (n0 + 1)), (2, .ref (n0 + 16))] [.ref (n0 + 72), .ref (n0 + 70)]
  refine oi_putr (q := 72) hc hin FF_X9_21 rfl ⟨Nat.le_of_ble_eq_true rfl, rfl⟩ dX9_init_27 ?_
  refine og_aload_n 0 hc dX9_init_30 rfl rfl ?_
  refine og_bipush (v := 18) hc dX9_init_31 (by decide) ?_
  refine oi_newi (N := 18) hc W_42 rfl (by decide) (by decide) (by decide) ⟨by rw [hR]; exact Nat.le_of_ble_eq_true rfl, by rw [hR]; exact Nat.le_of_ble_eq_true rfl⟩ dX9_init_33 ?_
  show Og X _ Q (PsI _ D ids n0 _ _) 3 30 35 [(0, .ref (n0 + 70)), (1, .ref (n0 + 1)), (2, .ref (n0 + 16))] [.ref (n0 + 73), .ref (n0 + 70)]
  refine oi_putr (q := 73) hc hin FF_X9_24 rfl ⟨Nat.le_of_ble_eq_true rfl, rfl⟩ dX9_init_35 ?_
  refine og_aload_n 0 hc dX9_init_38 rfl rfl ?_
  refine og_bipush (v := 18) hc dX9_init_39 (by decide) ?_
  refine oi_newi (N := 18) hc W_42 rfl (by decide) (by decide) (by decide) ⟨by rw [hR]; exact Nat.le_of_ble_eq_true rfl, by rw [hR]; exact Nat.le_of_ble_eq_true rfl⟩ dX9_init_41 ?_
  show Og X _ Q (PsI _ D ids n0 _ _) 4 48 43 [(0, .ref (n0 + 70)), (1, .ref (n0 + 1)), (2, .ref (n0 + 16))] [.ref (n0 + 74), .ref (n0 + 70)]
  refine oi_putr (q := 74) hc hin FF_X9_27 rfl ⟨Nat.le_of_ble_eq_true rfl, rfl⟩ dX9_init_43 ?_
  refine og_aload_n 0 hc dX9_init_46 rfl rfl ?_
  refine og_bipush (v := 12) hc dX9_init_47 (by decide) ?_
  refine oi_newi (N := 12) hc W_42 rfl (by decide) (by decide) (by decide) ⟨by rw [hR]; exact Nat.le_of_ble_eq_true rfl, by rw [hR]; exact Nat.le_of_ble_eq_true rfl⟩ dX9_init_49 ?_
  show Og X _ Q (PsI _ D ids n0 _ _) 5 60 51 [(0, .ref (n0 + 70)), (1, .ref (n0 + 1)), (2, .ref (n0 + 16))] [.ref (n0 + 75), .ref (n0 + 70)]
  refine oi_putr (q := 75) hc hin FF_X9_30 rfl ⟨Nat.le_of_ble_eq_true rfl, rfl⟩ dX9_init_51 ?_
  refine og_aload_n 0 hc dX9_init_54 rfl rfl ?_
  refine og_bipush (v := 12) hc dX9_init_55 (by decide) ?_
  refine oi_newi (N := 12) hc W_42 rfl (by decide) (by decide) (by decide) ⟨by rw [hR]; exact Nat.le_of_ble_eq_true rfl, by rw [hR]; exact Nat.le_of_ble_eq_true rfl⟩ dX9_init_57 ?_
  show Og X _ Q (PsI _ D ids n0 _ _) 6 72 59 [(0, .ref (n0 + 70)), (1, .ref (n0 + 1)), (2, .ref (n0 + 16))] [.ref (n0 + 76), .ref (n0 + 70)]
  refine oi_putr (q := 76) hc hin FF_X9_33 rfl ⟨Nat.le_of_ble_eq_true rfl, rfl⟩ dX9_init_59 ?_
  refine og_aload_n 0 hc dX9_init_62 rfl rfl ?_
  refine og_sipush (v := 216) hc dX9_init_63 (by decide) ?_
  refine oi_newi (N := 216) hc W_42 rfl (by decide) (by decide) (by decide) ⟨by rw [hR]; exact Nat.le_of_ble_eq_true rfl, by rw [hR]; exact Nat.le_of_ble_eq_true rfl⟩ dX9_init_66 ?_
  show Og X _ Q (PsI _ D ids n0 _ _) 7 288 68 [(0, .ref (n0 + 70)), (1, .ref (n0 + 1)), (2, .ref (n0 + 16))] [.ref (n0 + 77), .ref (n0 + 70)]
  refine oi_putr (q := 77) hc hin FF_X9_36 rfl ⟨Nat.le_of_ble_eq_true rfl, rfl⟩ dX9_init_68 ?_
  exact hend _ _ dX9_init_71
def iW_X11_init (w : Wx) : Wx := wR (wN (wR (iW_X9_init (wN (wR (iW_X10_init (wN (wR (iW_X7_init (wN (wR (iW_X1_init (wN (wR (iW_X3_init (wN (wR (iW_X4_init (wN (wR (iW_X0_init (wN (wR (iW_X2_init (wN (wR (wR (wN (wN (wR (wR (wN (wN (wR (wR (wN (wN (wR (wR (wN (wN (wR (wR (wN (wN (wR (wR (wN (wN (wR (wN (wR (iW_X8_init (wN (w))) 0 0 1)) 0 1 3))) 4 0 5) 3 0 4))) 6 0 7) 3 1 6))) 8 0 9) 3 2 8))) 10 0 11) 3 3 10))) 12 0 13) 3 4 12))) 14 0 15) 3 5 14))) 0 2 16))) 0 3 17))) 0 4 41))) 0 5 48))) 0 6 56))) 0 7 59))) 0 8 67))) 0 9 70)) 0 10 78
def iS_X11_init (S : St) : St := iS_X9_init (iS_X10_init (iS_X7_init (iS_X1_init (iS_X3_init (iS_X4_init (iS_X0_init (iS_X2_init (wi (wi (wi (wi (wi (wi (iS_X8_init (S)) 4 1 1) 6 1 1) 8 1 1) 10 1 1) 12 1 1) 14 1 1))))))))
set_option maxRecDepth 100000 in
set_option maxHeartbeats 8000000 in
theorem i_X11_init (w : Wx) (S : St) (h1 : w.1 = wX.1) (h2 : w.2.1 = 1) : MI mX11_init (fun n0 => [.ref (n0 + 0)]) w S (iW_X11_init w) (iS_X11_init S) := by
  obtain ⟨sh, N, ρ⟩ := w
  dsimp only at h1 h2
  subst h1; subst h2
  refine mi_of (show plainFor yX11_init = true from by decide) rfl rfl (fun _ => Nat.le_of_ble_eq_true rfl) ?_
  intro X D ids n0 Q hc hin hR hend
  show Og X _ Q (PsI _ D ids n0 _ _) 0 0 0 [(0, .ref (n0 + 0))] []
  refine og_aload_n 0 hc dX11_init_0 rfl rfl ?_
  refine og_objInit hc W_23 W_24 W_25 (by rw [hR]; exact Nat.le_of_ble_eq_true rfl) (by rw [hR]; exact Nat.le_of_ble_eq_true rfl) dX11_init_1 ?_
  refine og_aload_n 0 hc dX11_init_4 rfl rfl ?_
  refine oi_new hc NC_8 W_26 rfl ⟨by rw [hR]; exact Nat.le_of_ble_eq_true rfl, by rw [hR]; exact Nat.le_of_ble_eq_true rfl⟩ dX11_init_5 ?_
  show Og X _ Q (PsI _ D ids n0 _ _) 1 1 8 [(0, .ref (n0 + 0))] [.ref (n0 + 1), .ref (n0 + 0)]
  refine og_dup hc dX11_init_8 rfl ?_
  refine oi_call (k := 1) (As := []) (st := [.ref (n0 + 1), .ref (n0 + 0)]) (fun n0 => [.ref (n0 + 1)]) hc SI_X11_9 (i_X8_init _ _ rfl rfl) rfl rfl rfl ⟨by rw [hR]; exact Nat.le_of_ble_eq_true rfl, by rw [hR]; exact Nat.le_of_ble_eq_true rfl⟩ ⟨by rw [hR]; exact Nat.le_of_ble_eq_true rfl, by rw [hR]; exact Nat.le_of_ble_eq_true rfl⟩ (Nat.le_of_ble_eq_true rfl) dX11_init_9 ?_
  refine oi_putr (q := 1) hc hin FF_X11_10 rfl ⟨Nat.le_of_ble_eq_true rfl, rfl⟩ dX11_init_12 ?_
  refine og_aload_n 0 hc dX11_init_15 rfl rfl ?_
  refine og_bipush (v := 6) hc dX11_init_16 (by decide) ?_
  refine oi_anew (t := 0) (N := 6) hc W_43 N_44 rfl rfl (by decide) (by decide) (by decide) ⟨by rw [hR]; exact Nat.le_of_ble_eq_true rfl, by rw [hR]; exact Nat.le_of_ble_eq_true rfl⟩ dX11_init_18 ?_
  show Og X _ Q (PsI _ D ids n0 _ _) 3 12 21 [(0, .ref (n0 + 0))] [.ref (n0 + 3), .ref (n0 + 0)]
  refine oi_putr (q := 3) hc hin FF_X11_18 rfl ⟨Nat.le_of_ble_eq_true rfl, rfl⟩ dX11_init_21 ?_
  refine og_iconst (v := 0) hc dX11_init_24 (by decide) ?_
  refine og_istore_n [(1, .int 0), (0, .ref (n0 + 0))] hc dX11_init_25 rfl (Nat.le_of_ble_eq_true rfl) rfl ?_
  refine og_iload_n 0 hc dX11_init_26 rfl rfl ?_
  refine og_bipush (v := 6) hc dX11_init_27 (by decide) ?_
  refine og_icmp_ge 51 hc dX11_init_29 (by decide) (fun hh => absurd hh (by decide)) (fun _ => ?_)
  refine og_aload_n 1 hc dX11_init_32 rfl rfl ?_
  refine oi_getr (q := 3) hc FS_X11_18 rfl ⟨Nat.le_of_ble_eq_true rfl, rfl⟩ rfl dX11_init_33 ?_
  refine og_iload_n 0 hc dX11_init_36 rfl rfl ?_
  refine oi_new hc NC_6 W_43 rfl ⟨by rw [hR]; exact Nat.le_of_ble_eq_true rfl, by rw [hR]; exact Nat.le_of_ble_eq_true rfl⟩ dX11_init_37 ?_
  show Og X _ Q (PsI _ D ids n0 _ _) 4 16 40 [(1, .int 0), (0, .ref (n0 + 0))] [.ref (n0 + 4), .int 0, .ref (n0 + 3)]
  refine og_dup hc dX11_init_40 rfl ?_
  refine oi_call (k := 4) (As := []) (st := [.ref (n0 + 4), .int 0, .ref (n0 + 3)]) (fun n0 => [.ref (n0 + 4)]) hc SI_X11_22 (i_X6_init 4 _ _ rfl rfl rfl rfl) rfl rfl rfl ⟨by rw [hR]; exact Nat.le_of_ble_eq_true rfl, by rw [hR]; exact Nat.le_of_ble_eq_true rfl⟩ ⟨by rw [hR]; exact Nat.le_of_ble_eq_true rfl, by rw [hR]; exact Nat.le_of_ble_eq_true rfl⟩ (Nat.le_of_ble_eq_true rfl) dX11_init_41 ?_
  refine oi_aast (t := 0) (v := 4) hc ⟨Nat.le_of_ble_eq_true rfl, rfl⟩ rfl ⟨Nat.le_of_ble_eq_true rfl, rfl⟩ rfl (by decide) dX11_init_44 ?_
  refine og_iinc (v := 1) 0 [(1, .int 1), (0, .ref (n0 + 0))] hc dX11_init_45 rfl (by decide) (Nat.le_of_ble_eq_true rfl) rfl ?_
  refine og_goto 26 hc dX11_init_48 (by decide) ?_
  refine og_iload_n 0 hc dX11_init_26 rfl rfl ?_
  refine og_bipush (v := 6) hc dX11_init_27 (by decide) ?_
  refine og_icmp_ge 51 hc dX11_init_29 (by decide) (fun hh => absurd hh (by decide)) (fun _ => ?_)
  refine og_aload_n 1 hc dX11_init_32 rfl rfl ?_
  refine oi_getr (q := 3) hc FS_X11_18 rfl ⟨Nat.le_of_ble_eq_true rfl, rfl⟩ rfl dX11_init_33 ?_
  refine og_iload_n 0 hc dX11_init_36 rfl rfl ?_
  refine oi_new hc NC_6 W_43 rfl ⟨by rw [hR]; exact Nat.le_of_ble_eq_true rfl, by rw [hR]; exact Nat.le_of_ble_eq_true rfl⟩ dX11_init_37 ?_
  show Og X _ Q (PsI _ D ids n0 _ _) 6 420 40 [(1, .int 1), (0, .ref (n0 + 0))] [.ref (n0 + 6), .int 1, .ref (n0 + 3)]
  refine og_dup hc dX11_init_40 rfl ?_
  refine oi_call (k := 6) (As := []) (st := [.ref (n0 + 6), .int 1, .ref (n0 + 3)]) (fun n0 => [.ref (n0 + 6)]) hc SI_X11_22 (i_X6_init 6 _ _ rfl rfl rfl rfl) rfl rfl rfl ⟨by rw [hR]; exact Nat.le_of_ble_eq_true rfl, by rw [hR]; exact Nat.le_of_ble_eq_true rfl⟩ ⟨by rw [hR]; exact Nat.le_of_ble_eq_true rfl, by rw [hR]; exact Nat.le_of_ble_eq_true rfl⟩ (Nat.le_of_ble_eq_true rfl) dX11_init_41 ?_
  refine oi_aast (t := 0) (v := 6) hc ⟨Nat.le_of_ble_eq_true rfl, rfl⟩ rfl ⟨Nat.le_of_ble_eq_true rfl, rfl⟩ rfl (by decide) dX11_init_44 ?_
  refine og_iinc (v := 2) 0 [(1, .int 2), (0, .ref (n0 + 0))] hc dX11_init_45 rfl (by decide) (Nat.le_of_ble_eq_true rfl) rfl ?_
  refine og_goto 26 hc dX11_init_48 (by decide) ?_
  refine og_iload_n 0 hc dX11_init_26 rfl rfl ?_
  refine og_bipush (v := 6) hc dX11_init_27 (by decide) ?_
  refine og_icmp_ge 51 hc dX11_init_29 (by decide) (fun hh => absurd hh (by decide)) (fun _ => ?_)
  refine og_aload_n 1 hc dX11_init_32 rfl rfl ?_
  refine oi_getr (q := 3) hc FS_X11_18 rfl ⟨Nat.le_of_ble_eq_true rfl, rfl⟩ rfl dX11_init_33 ?_
  refine og_iload_n 0 hc dX11_init_36 rfl rfl ?_
  refine oi_new hc NC_6 W_43 rfl ⟨by rw [hR]; exact Nat.le_of_ble_eq_true rfl, by rw [hR]; exact Nat.le_of_ble_eq_true rfl⟩ dX11_init_37 ?_
  show Og X _ Q (PsI _ D ids n0 _ _) 8 824 40 [(1, .int 2), (0, .ref (n0 + 0))] [.ref (n0 + 8), .int 2, .ref (n0 + 3)]
  refine og_dup hc dX11_init_40 rfl ?_
  refine oi_call (k := 8) (As := []) (st := [.ref (n0 + 8), .int 2, .ref (n0 + 3)]) (fun n0 => [.ref (n0 + 8)]) hc SI_X11_22 (i_X6_init 8 _ _ rfl rfl rfl rfl) rfl rfl rfl ⟨by rw [hR]; exact Nat.le_of_ble_eq_true rfl, by rw [hR]; exact Nat.le_of_ble_eq_true rfl⟩ ⟨by rw [hR]; exact Nat.le_of_ble_eq_true rfl, by rw [hR]; exact Nat.le_of_ble_eq_true rfl⟩ (Nat.le_of_ble_eq_true rfl) dX11_init_41 ?_
  refine oi_aast (t := 0) (v := 8) hc ⟨Nat.le_of_ble_eq_true rfl, rfl⟩ rfl ⟨Nat.le_of_ble_eq_true rfl, rfl⟩ rfl (by decide) dX11_init_44 ?_
  refine og_iinc (v := 3) 0 [(1, .int 3), (0, .ref (n0 + 0))] hc dX11_init_45 rfl (by decide) (Nat.le_of_ble_eq_true rfl) rfl ?_
  refine og_goto 26 hc dX11_init_48 (by decide) ?_
  refine og_iload_n 0 hc dX11_init_26 rfl rfl ?_
  refine og_bipush (v := 6) hc dX11_init_27 (by decide) ?_
  refine og_icmp_ge 51 hc dX11_init_29 (by decide) (fun hh => absurd hh (by decide)) (fun _ => ?_)
  refine og_aload_n 1 hc dX11_init_32 rfl rfl ?_
  refine oi_getr (q := 3) hc FS_X11_18 rfl ⟨Nat.le_of_ble_eq_true rfl, rfl⟩ rfl dX11_init_33 ?_
  refine og_iload_n 0 hc dX11_init_36 rfl rfl ?_
  refine oi_new hc NC_6 W_43 rfl ⟨by rw [hR]; exact Nat.le_of_ble_eq_true rfl, by rw [hR]; exact Nat.le_of_ble_eq_true rfl⟩ dX11_init_37 ?_
  show Og X _ Q (PsI _ D ids n0 _ _) 10 1228 40 [(1, .int 3), (0, .ref (n0 + 0))] [.ref (n0 + 10), .int 3, .ref (n0 + 3)]
  refine og_dup hc dX11_init_40 rfl ?_
  refine oi_call (k := 10) (As := []) (st := [.ref (n0 + 10), .int 3, .ref (n0 + 3)]) (fun n0 => [.ref (n0 + 10)]) hc SI_X11_22 (i_X6_init 10 _ _ rfl rfl rfl rfl) rfl rfl rfl ⟨by rw [hR]; exact Nat.le_of_ble_eq_true rfl, by rw [hR]; exact Nat.le_of_ble_eq_true rfl⟩ ⟨by rw [hR]; exact Nat.le_of_ble_eq_true rfl, by rw [hR]; exact Nat.le_of_ble_eq_true rfl⟩ (Nat.le_of_ble_eq_true rfl) dX11_init_41 ?_
  refine oi_aast (t := 0) (v := 10) hc ⟨Nat.le_of_ble_eq_true rfl, rfl⟩ rfl ⟨Nat.le_of_ble_eq_true rfl, rfl⟩ rfl (by decide) dX11_init_44 ?_
  refine og_iinc (v := 4) 0 [(1, .int 4), (0, .ref (n0 + 0))] hc dX11_init_45 rfl (by decide) (Nat.le_of_ble_eq_true rfl) rfl ?_
  refine og_goto 26 hc dX11_init_48 (by decide) ?_
  refine og_iload_n 0 hc dX11_init_26 rfl rfl ?_
  refine og_bipush (v := 6) hc dX11_init_27 (by decide) ?_
  refine og_icmp_ge 51 hc dX11_init_29 (by decide) (fun hh => absurd hh (by decide)) (fun _ => ?_)
  refine og_aload_n 1 hc dX11_init_32 rfl rfl ?_
  refine oi_getr (q := 3) hc FS_X11_18 rfl ⟨Nat.le_of_ble_eq_true rfl, rfl⟩ rfl dX11_init_33 ?_
  refine og_iload_n 0 hc dX11_init_36 rfl rfl ?_
  refine oi_new hc NC_6 W_43 rfl ⟨by rw [hR]; exact Nat.le_of_ble_eq_true rfl, by rw [hR]; exact Nat.le_of_ble_eq_true rfl⟩ dX11_init_37 ?_
  show Og X _ Q (PsI _ D ids n0 _ _) 12 1632 40 [(1, .int 4), (0, .ref (n0 + 0))] [.ref (n0 + 12), .int 4, .ref (n0 + 3)]
  refine og_dup hc dX11_init_40 rfl ?_
  refine oi_call (k := 12) (As := []) (st := [.ref (n0 + 12), .int 4, .ref (n0 + 3)]) (fun n0 => [.ref (n0 + 12)]) hc SI_X11_22 (i_X6_init 12 _ _ rfl rfl rfl rfl) rfl rfl rfl ⟨by rw [hR]; exact Nat.le_of_ble_eq_true rfl, by rw [hR]; exact Nat.le_of_ble_eq_true rfl⟩ ⟨by rw [hR]; exact Nat.le_of_ble_eq_true rfl, by rw [hR]; exact Nat.le_of_ble_eq_true rfl⟩ (Nat.le_of_ble_eq_true rfl) dX11_init_41 ?_
  refine oi_aast (t := 0) (v := 12) hc ⟨Nat.le_of_ble_eq_true rfl, rfl⟩ rfl ⟨Nat.le_of_ble_eq_true rfl, rfl⟩ rfl (by decide) dX11_init_44 ?_
  refine og_iinc (v := 5) 0 [(1, .int 5), (0, .ref (n0 + 0))] hc dX11_init_45 rfl (by decide) (Nat.le_of_ble_eq_true rfl) rfl ?_
  refine og_goto 26 hc dX11_init_48 (by decide) ?_
  refine og_iload_n 0 hc dX11_init_26 rfl rfl ?_
  refine og_bipush (v := 6) hc dX11_init_27 (by decide) ?_
  refine og_icmp_ge 51 hc dX11_init_29 (by decide) (fun hh => absurd hh (by decide)) (fun _ => ?_)
  refine og_aload_n 1 hc dX11_init_32 rfl rfl ?_
  refine oi_getr (q := 3) hc FS_X11_18 rfl ⟨Nat.le_of_ble_eq_true rfl, rfl⟩ rfl dX11_init_33 ?_
  refine og_iload_n 0 hc dX11_init_36 rfl rfl ?_
  refine oi_new hc NC_6 W_43 rfl ⟨by rw [hR]; exact Nat.le_of_ble_eq_true rfl, by rw [hR]; exact Nat.le_of_ble_eq_true rfl⟩ dX11_init_37 ?_
  show Og X _ Q (PsI _ D ids n0 _ _) 14 2036 40 [(1, .int 5), (0, .ref (n0 + 0))] [.ref (n0 + 14), .int 5, .ref (n0 + 3)]
  refine og_dup hc dX11_init_40 rfl ?_
  refine oi_call (k := 14) (As := []) (st := [.ref (n0 + 14), .int 5, .ref (n0 + 3)]) (fun n0 => [.ref (n0 + 14)]) hc SI_X11_22 (i_X6_init 14 _ _ rfl rfl rfl rfl) rfl rfl rfl ⟨by rw [hR]; exact Nat.le_of_ble_eq_true rfl, by rw [hR]; exact Nat.le_of_ble_eq_true rfl⟩ ⟨by rw [hR]; exact Nat.le_of_ble_eq_true rfl, by rw [hR]; exact Nat.le_of_ble_eq_true rfl⟩ (Nat.le_of_ble_eq_true rfl) dX11_init_41 ?_
  refine oi_aast (t := 0) (v := 14) hc ⟨Nat.le_of_ble_eq_true rfl, rfl⟩ rfl ⟨Nat.le_of_ble_eq_true rfl, rfl⟩ rfl (by decide) dX11_init_44 ?_
  refine og_iinc (v := 6) 0 [(1, .int 6), (0, .ref (n0 + 0))] hc dX11_init_45 rfl (by decide) (Nat.le_of_ble_eq_true rfl) rfl ?_
  refine og_goto 26 hc dX11_init_48 (by decide) ?_
  refine og_iload_n 0 hc dX11_init_26 rfl rfl ?_
  refine og_bipush (v := 6) hc dX11_init_27 (by decide) ?_
  refine og_icmp_ge 51 hc dX11_init_29 (by decide) (fun _ => ?_) (fun hh => absurd (by decide) hh)
  refine og_aload_n 1 hc dX11_init_51 rfl rfl ?_
  refine oi_new hc NC_2 W_72 rfl ⟨by rw [hR]; exact Nat.le_of_ble_eq_true rfl, by rw [hR]; exact Nat.le_of_ble_eq_true rfl⟩ dX11_init_52 ?_
  show Og X _ Q (PsI _ D ids n0 _ _) 16 2441 55 [(1, .int 6), (0, .ref (n0 + 0))] [.ref (n0 + 16), .ref (n0 + 0)]
  refine og_dup hc dX11_init_55 rfl ?_
  refine og_aload_n 1 hc dX11_init_56 rfl rfl ?_
  refine oi_getr (q := 1) hc FS_X11_10 rfl ⟨Nat.le_of_ble_eq_true rfl, rfl⟩ rfl dX11_init_57 ?_
  refine og_aload_n 1 hc dX11_init_60 rfl rfl ?_
  refine oi_getr (q := 3) hc FS_X11_18 rfl ⟨Nat.le_of_ble_eq_true rfl, rfl⟩ rfl dX11_init_61 ?_
  refine og_iconst (v := 0) hc dX11_init_64 (by decide) ?_
  refine oi_aald (t := 0) (q := 4) hc ⟨Nat.le_of_ble_eq_true rfl, rfl⟩ rfl rfl (by decide) dX11_init_65 ?_
  refine og_aload_n 1 hc dX11_init_66 rfl rfl ?_
  refine oi_getr (q := 3) hc FS_X11_18 rfl ⟨Nat.le_of_ble_eq_true rfl, rfl⟩ rfl dX11_init_67 ?_
  refine og_iconst (v := 1) hc dX11_init_70 (by decide) ?_
  refine oi_aald (t := 0) (q := 6) hc ⟨Nat.le_of_ble_eq_true rfl, rfl⟩ rfl rfl (by decide) dX11_init_71 ?_
  refine oi_call (k := 16) (As := [.ref (n0 + 1), .ref (n0 + 4), .ref (n0 + 6)]) (st := [.ref (n0 + 16), .ref (n0 + 0)]) (fun n0 => [.ref (n0 + 16), .ref (n0 + 1), .ref (n0 + 4), .ref (n0 + 6)]) hc SI_X11_25 (i_X2_init _ _ rfl rfl) rfl rfl rfl ⟨by rw [hR]; exact Nat.le_of_ble_eq_true rfl, by rw [hR]; exact Nat.le_of_ble_eq_true rfl⟩ ⟨by rw [hR]; exact Nat.le_of_ble_eq_true rfl, by rw [hR]; exact Nat.le_of_ble_eq_true rfl⟩ (Nat.le_of_ble_eq_true rfl) dX11_init_72 ?_
  refine oi_putr (q := 16) hc hin FF_X11_28 rfl ⟨Nat.le_of_ble_eq_true rfl, rfl⟩ dX11_init_75 ?_
  refine og_aload_n 1 hc dX11_init_78 rfl rfl ?_
  refine oi_new hc NC_0 W_96 rfl ⟨by rw [hR]; exact Nat.le_of_ble_eq_true rfl, by rw [hR]; exact Nat.le_of_ble_eq_true rfl⟩ dX11_init_79 ?_
  show Og X _ Q (PsI _ D ids n0 _ _) 17 2450 82 [(1, .int 6), (0, .ref (n0 + 0))] [.ref (n0 + 17), .ref (n0 + 0)]
  refine og_dup hc dX11_init_82 rfl ?_
  refine og_aload_n 1 hc dX11_init_83 rfl rfl ?_
  refine oi_getr (q := 1) hc FS_X11_10 rfl ⟨Nat.le_of_ble_eq_true rfl, rfl⟩ rfl dX11_init_84 ?_
  refine og_aload_n 1 hc dX11_init_87 rfl rfl ?_
  refine oi_getr (q := 16) hc FS_X11_28 rfl ⟨Nat.le_of_ble_eq_true rfl, rfl⟩ rfl dX11_init_88 ?_
  refine og_aload_n 1 hc dX11_init_91 rfl rfl ?_
  refine oi_getr (q := 3) hc FS_X11_18 rfl ⟨Nat.le_of_ble_eq_true rfl, rfl⟩ rfl dX11_init_92 ?_
  refine oi_call (k := 17) (As := [.ref (n0 + 1), .ref (n0 + 16), .ref (n0 + 3)]) (st := [.ref (n0 + 17), .ref (n0 + 0)]) (fun n0 => [.ref (n0 + 17), .ref (n0 + 1), .ref (n0 + 16), .ref (n0 + 3)]) hc SI_X11_34 (i_X0_init _ _ rfl rfl) rfl rfl rfl ⟨by rw [hR]; exact Nat.le_of_ble_eq_true rfl, by rw [hR]; exact Nat.le_of_ble_eq_true rfl⟩ ⟨by rw [hR]; exact Nat.le_of_ble_eq_true rfl, by rw [hR]; exact Nat.le_of_ble_eq_true rfl⟩ (Nat.le_of_ble_eq_true rfl) dX11_init_95 ?_
  refine oi_putr (q := 17) hc hin FF_X11_37 rfl ⟨Nat.le_of_ble_eq_true rfl, rfl⟩ dX11_init_98 ?_
  refine og_aload_n 1 hc dX11_init_101 rfl rfl ?_
  refine oi_new hc NC_4 W_202 rfl ⟨by rw [hR]; exact Nat.le_of_ble_eq_true rfl, by rw [hR]; exact Nat.le_of_ble_eq_true rfl⟩ dX11_init_102 ?_
  show Og X _ Q (PsI _ D ids n0 _ _) 41 2739 105 [(1, .int 6), (0, .ref (n0 + 0))] [.ref (n0 + 41), .ref (n0 + 0)]
  refine og_dup hc dX11_init_105 rfl ?_
  refine og_aload_n 1 hc dX11_init_106 rfl rfl ?_
  refine oi_getr (q := 1) hc FS_X11_10 rfl ⟨Nat.le_of_ble_eq_true rfl, rfl⟩ rfl dX11_init_107 ?_
  refine og_aload_n 1 hc dX11_init_110 rfl rfl ?_
  refine oi_getr (q := 17) hc FS_X11_37 rfl ⟨Nat.le_of_ble_eq_true rfl, rfl⟩ rfl dX11_init_111 ?_
  refine oi_call (k := 41) (As := [.ref (n0 + 1), .ref (n0 + 17)]) (st := [.ref (n0 + 41), .ref (n0 + 0)]) (fun n0 => [.ref (n0 + 41), .ref (n0 + 1), .ref (n0 + 17)]) hc SI_X11_43 (i_X4_init _ _ rfl rfl) rfl rfl rfl ⟨by rw [hR]; exact Nat.le_of_ble_eq_true rfl, by rw [hR]; exact Nat.le_of_ble_eq_true rfl⟩ ⟨by rw [hR]; exact Nat.le_of_ble_eq_true rfl, by rw [hR]; exact Nat.le_of_ble_eq_true rfl⟩ (Nat.le_of_ble_eq_true rfl) dX11_init_114 ?_
  refine oi_putr (q := 41) hc hin FF_X11_46 rfl ⟨Nat.le_of_ble_eq_true rfl, rfl⟩ dX11_init_117 ?_
  refine og_aload_n 1 hc dX11_init_120 rfl rfl ?_
  refine oi_new hc NC_3 W_241 rfl ⟨by rw [hR]; exact Nat.le_of_ble_eq_true rfl, by rw [hR]; exact Nat.le_of_ble_eq_true rfl⟩ dX11_init_121 ?_
  show Og X _ Q (PsI _ D ids n0 _ _) 48 3349 124 [(1, .int 6), (0, .ref (n0 + 0))] [.ref (n0 + 48), .ref (n0 + 0)]
  refine og_dup hc dX11_init_124 rfl ?_
  refine og_aload_n 1 hc dX11_init_125 rfl rfl ?_
  refine oi_getr (q := 1) hc FS_X11_10 rfl ⟨Nat.le_of_ble_eq_true rfl, rfl⟩ rfl dX11_init_126 ?_
  refine og_aload_n 1 hc dX11_init_129 rfl rfl ?_
  refine oi_getr (q := 17) hc FS_X11_37 rfl ⟨Nat.le_of_ble_eq_true rfl, rfl⟩ rfl dX11_init_130 ?_
  refine oi_call (k := 48) (As := [.ref (n0 + 1), .ref (n0 + 17)]) (st := [.ref (n0 + 48), .ref (n0 + 0)]) (fun n0 => [.ref (n0 + 48), .ref (n0 + 1), .ref (n0 + 17)]) hc SI_X11_52 (i_X3_init _ _ rfl rfl) rfl rfl rfl ⟨by rw [hR]; exact Nat.le_of_ble_eq_true rfl, by rw [hR]; exact Nat.le_of_ble_eq_true rfl⟩ ⟨by rw [hR]; exact Nat.le_of_ble_eq_true rfl, by rw [hR]; exact Nat.le_of_ble_eq_true rfl⟩ (Nat.le_of_ble_eq_true rfl) dX11_init_133 ?_
  refine oi_putr (q := 48) hc hin FF_X11_53 rfl ⟨Nat.le_of_ble_eq_true rfl, rfl⟩ dX11_init_136 ?_
  refine og_aload_n 1 hc dX11_init_139 rfl rfl ?_
  refine oi_new hc NC_1 W_282 rfl ⟨by rw [hR]; exact Nat.le_of_ble_eq_true rfl, by rw [hR]; exact Nat.le_of_ble_eq_true rfl⟩ dX11_init_140 ?_
  show Og X _ Q (PsI _ D ids n0 _ _) 56 4252 143 [(1, .int 6), (0, .ref (n0 + 0))] [.ref (n0 + 56), .ref (n0 + 0)]
  refine og_dup hc dX11_init_143 rfl ?_
  refine oi_call (k := 56) (As := []) (st := [.ref (n0 + 56), .ref (n0 + 0)]) (fun n0 => [.ref (n0 + 56)]) hc SI_X11_59 (i_X1_init _ _ rfl rfl) rfl rfl rfl ⟨by rw [hR]; exact Nat.le_of_ble_eq_true rfl, by rw [hR]; exact Nat.le_of_ble_eq_true rfl⟩ ⟨by rw [hR]; exact Nat.le_of_ble_eq_true rfl, by rw [hR]; exact Nat.le_of_ble_eq_true rfl⟩ (Nat.le_of_ble_eq_true rfl) dX11_init_144 ?_
  refine oi_putr (q := 56) hc hin FF_X11_60 rfl ⟨Nat.le_of_ble_eq_true rfl, rfl⟩ dX11_init_147 ?_
  refine og_aload_n 1 hc dX11_init_150 rfl rfl ?_
  refine oi_new hc NC_7 W_299 rfl ⟨by rw [hR]; exact Nat.le_of_ble_eq_true rfl, by rw [hR]; exact Nat.le_of_ble_eq_true rfl⟩ dX11_init_151 ?_
  show Og X _ Q (PsI _ D ids n0 _ _) 59 4279 154 [(1, .int 6), (0, .ref (n0 + 0))] [.ref (n0 + 59), .ref (n0 + 0)]
  refine og_dup hc dX11_init_154 rfl ?_
  refine oi_call (k := 59) (As := []) (st := [.ref (n0 + 59), .ref (n0 + 0)]) (fun n0 => [.ref (n0 + 59)]) hc SI_X11_66 (i_X7_init _ _ rfl rfl) rfl rfl rfl ⟨by rw [hR]; exact Nat.le_of_ble_eq_true rfl, by rw [hR]; exact Nat.le_of_ble_eq_true rfl⟩ ⟨by rw [hR]; exact Nat.le_of_ble_eq_true rfl, by rw [hR]; exact Nat.le_of_ble_eq_true rfl⟩ (Nat.le_of_ble_eq_true rfl) dX11_init_155 ?_
  refine oi_putr (q := 59) hc hin FF_X11_67 rfl ⟨Nat.le_of_ble_eq_true rfl, rfl⟩ dX11_init_158 ?_
  refine og_aload_n 1 hc dX11_init_161 rfl rfl ?_
  refine oi_new hc NC_10 W_342 rfl ⟨by rw [hR]; exact Nat.le_of_ble_eq_true rfl, by rw [hR]; exact Nat.le_of_ble_eq_true rfl⟩ dX11_init_162 ?_
  show Og X _ Q (PsI _ D ids n0 _ _) 67 4553 165 [(1, .int 6), (0, .ref (n0 + 0))] [.ref (n0 + 67), .ref (n0 + 0)]
  refine og_dup hc dX11_init_165 rfl ?_
  refine og_aload_n 1 hc dX11_init_166 rfl rfl ?_
  refine oi_getr (q := 16) hc FS_X11_28 rfl ⟨Nat.le_of_ble_eq_true rfl, rfl⟩ rfl dX11_init_167 ?_
  refine oi_call (k := 67) (As := [.ref (n0 + 16)]) (st := [.ref (n0 + 67), .ref (n0 + 0)]) (fun n0 => [.ref (n0 + 67), .ref (n0 + 16)]) hc SI_X11_73 (i_X10_init _ _ rfl rfl) rfl rfl rfl ⟨by rw [hR]; exact Nat.le_of_ble_eq_true rfl, by rw [hR]; exact Nat.le_of_ble_eq_true rfl⟩ ⟨by rw [hR]; exact Nat.le_of_ble_eq_true rfl, by rw [hR]; exact Nat.le_of_ble_eq_true rfl⟩ (Nat.le_of_ble_eq_true rfl) dX11_init_170 ?_
  refine oi_putr (q := 67) hc hin FF_X11_76 rfl ⟨Nat.le_of_ble_eq_true rfl, rfl⟩ dX11_init_173 ?_
  refine og_aload_n 1 hc dX11_init_176 rfl rfl ?_
  refine oi_new hc NC_9 W_364 rfl ⟨by rw [hR]; exact Nat.le_of_ble_eq_true rfl, by rw [hR]; exact Nat.le_of_ble_eq_true rfl⟩ dX11_init_177 ?_
  show Og X _ Q (PsI _ D ids n0 _ _) 70 4583 180 [(1, .int 6), (0, .ref (n0 + 0))] [.ref (n0 + 70), .ref (n0 + 0)]
  refine og_dup hc dX11_init_180 rfl ?_
  refine og_aload_n 1 hc dX11_init_181 rfl rfl ?_
  refine oi_getr (q := 1) hc FS_X11_10 rfl ⟨Nat.le_of_ble_eq_true rfl, rfl⟩ rfl dX11_init_182 ?_
  refine og_aload_n 1 hc dX11_init_185 rfl rfl ?_
  refine oi_getr (q := 16) hc FS_X11_28 rfl ⟨Nat.le_of_ble_eq_true rfl, rfl⟩ rfl dX11_init_186 ?_
  refine oi_call (k := 70) (As := [.ref (n0 + 1), .ref (n0 + 16)]) (st := [.ref (n0 + 70), .ref (n0 + 0)]) (fun n0 => [.ref (n0 + 70), .ref (n0 + 1), .ref (n0 + 16)]) hc SI_X11_82 (i_X9_init _ _ rfl rfl) rfl rfl rfl ⟨by rw [hR]; exact Nat.le_of_ble_eq_true rfl, by rw [hR]; exact Nat.le_of_ble_eq_true rfl⟩ ⟨by rw [hR]; exact Nat.le_of_ble_eq_true rfl, by rw [hR]; exact Nat.le_of_ble_eq_true rfl⟩ (Nat.le_of_ble_eq_true rfl) dX11_init_189 ?_
  refine oi_putr (q := 70) hc hin FF_X11_85 rfl ⟨Nat.le_of_ble_eq_true rfl, rfl⟩ dX11_init_192 ?_
  refine og_aload_n 1 hc dX11_init_195 rfl rfl ?_
  refine og_sipush (v := 400) hc dX11_init_196 (by decide) ?_
  refine oi_newj (N := 400) hc W_71 rfl (by decide) (by decide) (by decide) ⟨by rw [hR]; exact Nat.le_of_ble_eq_true rfl, by rw [hR]; exact Nat.le_of_ble_eq_true rfl⟩ dX11_init_199 ?_
  show Og X _ Q (PsI _ D ids n0 _ _) 78 5271 201 [(1, .int 6), (0, .ref (n0 + 0))] [.ref (n0 + 78), .ref (n0 + 0)]
  refine oi_putr (q := 78) hc hin FF_X11_89 rfl ⟨Nat.le_of_ble_eq_true rfl, rfl⟩ dX11_init_201 ?_
  exact hend _ _ dX11_init_204
def iW_X12_init (w : Wx) : Wx := wR (wN (wR (wN (wR (wN (wR (wN (wR (wN (wR (wN (wR (wN (wR (wN (wR (wN (wR (wN (wR (wN (wR (wN (wR (wN (wR (wN (wR (wN (wR (wN (wR (wN (wR (wN (wR (wN (wR (wN (wR (wN (wR (wN (wR (wN (wR (wN (wR (wN (wR (wN (wR (wN (wR (wN (wR (wN (wR (wN (wR (wN (wR (wN (wR (wN (wR (wN (wR (wN (wR (wN (wR (wN (wR (wN (wR (wN (wR (wN (wR (wN (wR (wN (w)) 0 0 1)) 0 1 2)) 0 2 3)) 0 3 4)) 0 7 5)) 0 10 6)) 0 11 7)) 0 12 8)) 0 13 9)) 0 14 10)) 0 15 11)) 0 16 12)) 0 17 13)) 0 18 14)) 0 19 15)) 0 20 16)) 0 21 17)) 0 23 18)) 0 24 19)) 0 25 20)) 0 26 21)) 0 27 22)) 0 28 23)) 0 29 24)) 0 31 25)) 0 32 26)) 0 33 27)) 0 37 28)) 0 38 29)) 0 39 30)) 0 40 31)) 0 41 32)) 0 42 33)) 0 44 34)) 0 45 35)) 0 47 36)) 0 48 37)) 0 49 38)) 0 50 39)) 0 52 40)) 0 53 41)) 0 54 42
def iS_X12_init (S : St) : St := wi (wi (wi (wi (wi (wi (wi (wi (wi (wi (wi (wi (wi (wi (wi (wi (wi (wi (wi (wi (wi (S) 0 5 10) 0 6 10) 5 (nt 0) 5) 5 (nt 1) 20) 5 (nt 2) 10) 5 (nt 3) 100) 5 (nt 4) 100) 1 (nt 0) (-1)) 1 (nt 1) (-1)) 1 (nt 2) (-1)) 1 (nt 3) (-1)) 1 (nt 4) (-1)) 1 (nt 5) (-1)) 35 (nt 0) (-1)) 35 (nt 1) (-1)) 35 (nt 2) (-1)) 35 (nt 3) (-1)) 35 (nt 4) (-1)) 35 (nt 5) (-1)) 35 (nt 6) (-1)) 35 (nt 7) (-1)
set_option maxRecDepth 100000 in
set_option maxHeartbeats 8000000 in
theorem i_X12_init (w : Wx) (S : St) (h1 : w.1 = wM.1) (h2 : w.2.1 = 1) : MI mX12_init (fun n0 => [.ref (n0 + 0)]) w S (iW_X12_init w) (iS_X12_init S) := by
  obtain ⟨sh, N, ρ⟩ := w
  dsimp only at h1 h2
  subst h1; subst h2
  refine mi_of (show plainFor yX12_init = true from by decide) rfl rfl (fun _ => Nat.le_of_ble_eq_true rfl) ?_
  intro X D ids n0 Q hc hin hR hend
  show Og X _ Q (PsI _ D ids n0 _ _) 0 0 0 [(0, .ref (n0 + 0))] []
  refine og_aload_n 0 hc dX12_init_0 rfl rfl ?_
  refine og_objInit hc W_1086 W_24 W_25 (by rw [hR]; exact Nat.le_of_ble_eq_true rfl) (by rw [hR]; exact Nat.le_of_ble_eq_true rfl) dX12_init_1 ?_
  refine og_aload_n 0 hc dX12_init_4 rfl rfl ?_
  refine og_bipush (v := 6) hc dX12_init_5 (by decide) ?_
  refine oi_newi (N := 6) hc W_42 rfl (by decide) (by decide) (by decide) ⟨by rw [hR]; exact Nat.le_of_ble_eq_true rfl, by rw [hR]; exact Nat.le_of_ble_eq_true rfl⟩ dX12_init_7 ?_
  show Og X _ Q (PsI _ D ids n0 _ _) 1 6 9 [(0, .ref (n0 + 0))] [.ref (n0 + 1), .ref (n0 + 0)]
  refine oi_putr (q := 1) hc hin FF_X12_7 rfl ⟨Nat.le_of_ble_eq_true rfl, rfl⟩ dX12_init_9 ?_
  refine og_aload_n 0 hc dX12_init_12 rfl rfl ?_
  refine og_bipush (v := 6) hc dX12_init_13 (by decide) ?_
  refine oi_newi (N := 6) hc W_42 rfl (by decide) (by decide) (by decide) ⟨by rw [hR]; exact Nat.le_of_ble_eq_true rfl, by rw [hR]; exact Nat.le_of_ble_eq_true rfl⟩ dX12_init_15 ?_
  show Og X _ Q (PsI _ D ids n0 _ _) 2 12 17 [(0, .ref (n0 + 0))] [.ref (n0 + 2), .ref (n0 + 0)]
  refine oi_putr (q := 2) hc hin FF_X12_13 rfl ⟨Nat.le_of_ble_eq_true rfl, rfl⟩ dX12_init_17 ?_
  refine og_aload_n 0 hc dX12_init_20 rfl rfl ?_
  refine og_sipush (v := 2400) hc dX12_init_21 (by decide) ?_
  refine oi_newj (N := 2400) hc W_71 rfl (by decide) (by decide) (by decide) ⟨by rw [hR]; exact Nat.le_of_ble_eq_true rfl, by rw [hR]; exact Nat.le_of_ble_eq_true rfl⟩ dX12_init_24 ?_
  show Og X _ Q (PsI _ D ids n0 _ _) 3 2412 26 [(0, .ref (n0 + 0))] [.ref (n0 + 3), .ref (n0 + 0)]
  refine oi_putr (q := 3) hc hin FF_X12_16 rfl ⟨Nat.le_of_ble_eq_true rfl, rfl⟩ dX12_init_26 ?_
  refine og_aload_n 0 hc dX12_init_29 rfl rfl ?_
  refine og_sipush (v := 400) hc dX12_init_30 (by decide) ?_
  refine oi_newj (N := 400) hc W_71 rfl (by decide) (by decide) (by decide) ⟨by rw [hR]; exact Nat.le_of_ble_eq_true rfl, by rw [hR]; exact Nat.le_of_ble_eq_true rfl⟩ dX12_init_33 ?_
  show Og X _ Q (PsI _ D ids n0 _ _) 4 2812 35 [(0, .ref (n0 + 0))] [.ref (n0 + 4), .ref (n0 + 0)]
  refine oi_putr (q := 4) hc hin FF_X12_20 rfl ⟨Nat.le_of_ble_eq_true rfl, rfl⟩ dX12_init_35 ?_
  refine og_aload_n 0 hc dX12_init_38 rfl rfl ?_
  refine og_bipush (v := 10) hc dX12_init_39 (by decide) ?_
  refine oi_putv hc FP_X12_23 rfl ⟨Nat.le_of_ble_eq_true rfl, rfl⟩ (by decide) (by decide) dX12_init_41 ?_
  refine og_aload_n 0 hc dX12_init_44 rfl rfl ?_
  refine og_bipush (v := 10) hc dX12_init_45 (by decide) ?_
  refine oi_putv hc FP_X12_27 rfl ⟨Nat.le_of_ble_eq_true rfl, rfl⟩ (by decide) (by decide) dX12_init_47 ?_
  refine og_aload_n 0 hc dX12_init_50 rfl rfl ?_
  refine og_iconst (v := 5) hc dX12_init_51 (by decide) ?_
  refine oi_newi (N := 5) hc W_42 rfl (by decide) (by decide) (by decide) ⟨by rw [hR]; exact Nat.le_of_ble_eq_true rfl, by rw [hR]; exact Nat.le_of_ble_eq_true rfl⟩ dX12_init_52 ?_
  show Og X _ Q (PsI _ D ids n0 _ _) 5 2817 54 [(0, .ref (n0 + 0))] [.ref (n0 + 5), .ref (n0 + 0)]
  refine oi_putr (q := 5) hc hin FF_X12_30 rfl ⟨Nat.le_of_ble_eq_true rfl, rfl⟩ dX12_init_54 ?_
  refine og_aload_n 0 hc dX12_init_57 rfl rfl ?_
  refine og_bipush (v := 20) hc dX12_init_58 (by decide) ?_
  refine oi_newi (N := 20) hc W_42 rfl (by decide) (by decide) (by decide) ⟨by rw [hR]; exact Nat.le_of_ble_eq_true rfl, by rw [hR]; exact Nat.le_of_ble_eq_true rfl⟩ dX12_init_60 ?_
  show Og X _ Q (PsI _ D ids n0 _ _) 6 2837 62 [(0, .ref (n0 + 0))] [.ref (n0 + 6), .ref (n0 + 0)]
  refine oi_putr (q := 6) hc hin FF_X12_33 rfl ⟨Nat.le_of_ble_eq_true rfl, rfl⟩ dX12_init_62 ?_
  refine og_aload_n 0 hc dX12_init_65 rfl rfl ?_
  refine og_bipush (v := 20) hc dX12_init_66 (by decide) ?_
  refine oi_newi (N := 20) hc W_42 rfl (by decide) (by decide) (by decide) ⟨by rw [hR]; exact Nat.le_of_ble_eq_true rfl, by rw [hR]; exact Nat.le_of_ble_eq_true rfl⟩ dX12_init_68 ?_
  show Og X _ Q (PsI _ D ids n0 _ _) 7 2857 70 [(0, .ref (n0 + 0))] [.ref (n0 + 7), .ref (n0 + 0)]
  refine oi_putr (q := 7) hc hin FF_X12_36 rfl ⟨Nat.le_of_ble_eq_true rfl, rfl⟩ dX12_init_70 ?_
  refine og_aload_n 0 hc dX12_init_73 rfl rfl ?_
  refine og_bipush (v := 20) hc dX12_init_74 (by decide) ?_
  refine oi_newi (N := 20) hc W_42 rfl (by decide) (by decide) (by decide) ⟨by rw [hR]; exact Nat.le_of_ble_eq_true rfl, by rw [hR]; exact Nat.le_of_ble_eq_true rfl⟩ dX12_init_76 ?_
  show Og X _ Q (PsI _ D ids n0 _ _) 8 2877 78 [(0, .ref (n0 + 0))] [.ref (n0 + 8), .ref (n0 + 0)]
  refine oi_putr (q := 8) hc hin FF_X12_39 rfl ⟨Nat.le_of_ble_eq_true rfl, rfl⟩ dX12_init_78 ?_
  refine og_aload_n 0 hc dX12_init_81 rfl rfl ?_
  refine og_bipush (v := 20) hc dX12_init_82 (by decide) ?_
  refine oi_newi (N := 20) hc W_42 rfl (by decide) (by decide) (by decide) ⟨by rw [hR]; exact Nat.le_of_ble_eq_true rfl, by rw [hR]; exact Nat.le_of_ble_eq_true rfl⟩ dX12_init_84 ?_
  show Og X _ Q (PsI _ D ids n0 _ _) 9 2897 86 [(0, .ref (n0 + 0))] [.ref (n0 + 9), .ref (n0 + 0)]
  refine oi_putr (q := 9) hc hin FF_X12_42 rfl ⟨Nat.le_of_ble_eq_true rfl, rfl⟩ dX12_init_86 ?_
  refine og_aload_n 0 hc dX12_init_89 rfl rfl ?_
  refine og_bipush (v := 20) hc dX12_init_90 (by decide) ?_
  refine oi_newi (N := 20) hc W_42 rfl (by decide) (by decide) (by decide) ⟨by rw [hR]; exact Nat.le_of_ble_eq_true rfl, by rw [hR]; exact Nat.le_of_ble_eq_true rfl⟩ dX12_init_92 ?_
  show Og X _ Q (PsI _ D ids n0 _ _) 10 2917 94 [(0, .ref (n0 + 0))] [.ref (n0 + 10), .ref (n0 + 0)]
  refine oi_putr (q := 10) hc hin FF_X12_45 rfl ⟨Nat.le_of_ble_eq_true rfl, rfl⟩ dX12_init_94 ?_
  refine og_aload_n 0 hc dX12_init_97 rfl rfl ?_
  refine og_bipush (v := 20) hc dX12_init_98 (by decide) ?_
  refine oi_newi (N := 20) hc W_42 rfl (by decide) (by decide) (by decide) ⟨by rw [hR]; exact Nat.le_of_ble_eq_true rfl, by rw [hR]; exact Nat.le_of_ble_eq_true rfl⟩ dX12_init_100 ?_
  show Og X _ Q (PsI _ D ids n0 _ _) 11 2937 102 [(0, .ref (n0 + 0))] [.ref (n0 + 11), .ref (n0 + 0)]
  refine oi_putr (q := 11) hc hin FF_X12_48 rfl ⟨Nat.le_of_ble_eq_true rfl, rfl⟩ dX12_init_102 ?_
  refine og_aload_n 0 hc dX12_init_105 rfl rfl ?_
  refine og_bipush (v := 20) hc dX12_init_106 (by decide) ?_
  refine oi_newi (N := 20) hc W_42 rfl (by decide) (by decide) (by decide) ⟨by rw [hR]; exact Nat.le_of_ble_eq_true rfl, by rw [hR]; exact Nat.le_of_ble_eq_true rfl⟩ dX12_init_108 ?_
  show Og X _ Q (PsI _ D ids n0 _ _) 12 2957 110 [(0, .ref (n0 + 0))] [.ref (n0 + 12), .ref (n0 + 0)]
  refine oi_putr (q := 12) hc hin FF_X12_51 rfl ⟨Nat.le_of_ble_eq_true rfl, rfl⟩ dX12_init_110 ?_
  refine og_aload_n 0 hc dX12_init_113 rfl rfl ?_
  refine og_bipush (v := 20) hc dX12_init_114 (by decide) ?_
  refine oi_newi (N := 20) hc W_42 rfl (by decide) (by decide) (by decide) ⟨by rw [hR]; exact Nat.le_of_ble_eq_true rfl, by rw [hR]; exact Nat.le_of_ble_eq_true rfl⟩ dX12_init_116 ?_
  show Og X _ Q (PsI _ D ids n0 _ _) 13 2977 118 [(0, .ref (n0 + 0))] [.ref (n0 + 13), .ref (n0 + 0)]
  refine oi_putr (q := 13) hc hin FF_X12_54 rfl ⟨Nat.le_of_ble_eq_true rfl, rfl⟩ dX12_init_118 ?_
  refine og_aload_n 0 hc dX12_init_121 rfl rfl ?_
  refine og_bipush (v := 20) hc dX12_init_122 (by decide) ?_
  refine oi_newi (N := 20) hc W_42 rfl (by decide) (by decide) (by decide) ⟨by rw [hR]; exact Nat.le_of_ble_eq_true rfl, by rw [hR]; exact Nat.le_of_ble_eq_true rfl⟩ dX12_init_124 ?_
  show Og X _ Q (PsI _ D ids n0 _ _) 14 2997 126 [(0, .ref (n0 + 0))] [.ref (n0 + 14), .ref (n0 + 0)]
  refine oi_putr (q := 14) hc hin FF_X12_57 rfl ⟨Nat.le_of_ble_eq_true rfl, rfl⟩ dX12_init_126 ?_
  refine og_aload_n 0 hc dX12_init_129 rfl rfl ?_
  refine og_bipush (v := 20) hc dX12_init_130 (by decide) ?_
  refine oi_newi (N := 20) hc W_42 rfl (by decide) (by decide) (by decide) ⟨by rw [hR]; exact Nat.le_of_ble_eq_true rfl, by rw [hR]; exact Nat.le_of_ble_eq_true rfl⟩ dX12_init_132 ?_
  show Og X _ Q (PsI _ D ids n0 _ _) 15 3017 134 [(0, .ref (n0 + 0))] [.ref (n0 + 15), .ref (n0 + 0)]
  refine oi_putr (q := 15) hc hin FF_X12_60 rfl ⟨Nat.le_of_ble_eq_true rfl, rfl⟩ dX12_init_134 ?_
  refine og_aload_n 0 hc dX12_init_137 rfl rfl ?_
  refine og_bipush (v := 20) hc dX12_init_138 (by decide) ?_
  refine oi_newz (N := 20) hc W_240 rfl (by decide) (by decide) (by decide) ⟨by rw [hR]; exact Nat.le_of_ble_eq_true rfl, by rw [hR]; exact Nat.le_of_ble_eq_true rfl⟩ dX12_init_140 ?_
  show Og X _ Q (PsI _ D ids n0 _ _) 16 3037 142 [(0, .ref (n0 + 0))] [.ref (n0 + 16), .ref (n0 + 0)]
  refine oi_putr (q := 16) hc hin FF_X12_63 rfl ⟨Nat.le_of_ble_eq_true rfl, rfl⟩ dX12_init_142 ?_
  refine og_aload_n 0 hc dX12_init_145 rfl rfl ?_
  refine og_bipush (v := 8) hc dX12_init_146 (by decide) ?_
  refine oi_newi (N := 8) hc W_42 rfl (by decide) (by decide) (by decide) ⟨by rw [hR]; exact Nat.le_of_ble_eq_true rfl, by rw [hR]; exact Nat.le_of_ble_eq_true rfl⟩ dX12_init_148 ?_
  show Og X _ Q (PsI _ D ids n0 _ _) 17 3045 150 [(0, .ref (n0 + 0))] [.ref (n0 + 17), .ref (n0 + 0)]
  refine oi_putr (q := 17) hc hin FF_X12_67 rfl ⟨Nat.le_of_ble_eq_true rfl, rfl⟩ dX12_init_150 ?_
  refine og_aload_n 0 hc dX12_init_153 rfl rfl ?_
  refine og_sipush (v := 256) hc dX12_init_154 (by decide) ?_
  refine oi_newz (N := 256) hc W_240 rfl (by decide) (by decide) (by decide) ⟨by rw [hR]; exact Nat.le_of_ble_eq_true rfl, by rw [hR]; exact Nat.le_of_ble_eq_true rfl⟩ dX12_init_157 ?_
  show Og X _ Q (PsI _ D ids n0 _ _) 18 3301 159 [(0, .ref (n0 + 0))] [.ref (n0 + 18), .ref (n0 + 0)]
  refine oi_putr (q := 18) hc hin FF_X12_70 rfl ⟨Nat.le_of_ble_eq_true rfl, rfl⟩ dX12_init_159 ?_
  refine og_aload_n 0 hc dX12_init_162 rfl rfl ?_
  refine og_sipush (v := 256) hc dX12_init_163 (by decide) ?_
  refine oi_newi (N := 256) hc W_42 rfl (by decide) (by decide) (by decide) ⟨by rw [hR]; exact Nat.le_of_ble_eq_true rfl, by rw [hR]; exact Nat.le_of_ble_eq_true rfl⟩ dX12_init_166 ?_
  show Og X _ Q (PsI _ D ids n0 _ _) 19 3557 168 [(0, .ref (n0 + 0))] [.ref (n0 + 19), .ref (n0 + 0)]
  refine oi_putr (q := 19) hc hin FF_X12_73 rfl ⟨Nat.le_of_ble_eq_true rfl, rfl⟩ dX12_init_168 ?_
  refine og_aload_n 0 hc dX12_init_171 rfl rfl ?_
  refine og_bipush (v := 8) hc dX12_init_172 (by decide) ?_
  refine oi_newi (N := 8) hc W_42 rfl (by decide) (by decide) (by decide) ⟨by rw [hR]; exact Nat.le_of_ble_eq_true rfl, by rw [hR]; exact Nat.le_of_ble_eq_true rfl⟩ dX12_init_174 ?_
  show Og X _ Q (PsI _ D ids n0 _ _) 20 3565 176 [(0, .ref (n0 + 0))] [.ref (n0 + 20), .ref (n0 + 0)]
  refine oi_putr (q := 20) hc hin FF_X12_76 rfl ⟨Nat.le_of_ble_eq_true rfl, rfl⟩ dX12_init_176 ?_
  refine og_aload_n 0 hc dX12_init_179 rfl rfl ?_
  refine og_bipush (v := 20) hc dX12_init_180 (by decide) ?_
  refine oi_newi (N := 20) hc W_42 rfl (by decide) (by decide) (by decide) ⟨by rw [hR]; exact Nat.le_of_ble_eq_true rfl, by rw [hR]; exact Nat.le_of_ble_eq_true rfl⟩ dX12_init_182 ?_
  show Og X _ Q (PsI _ D ids n0 _ _) 21 3585 184 [(0, .ref (n0 + 0))] [.ref (n0 + 21), .ref (n0 + 0)]
  refine oi_putr (q := 21) hc hin FF_X12_79 rfl ⟨Nat.le_of_ble_eq_true rfl, rfl⟩ dX12_init_184 ?_
  refine og_aload_n 0 hc dX12_init_187 rfl rfl ?_
  refine og_bipush (v := 20) hc dX12_init_188 (by decide) ?_
  refine oi_newi (N := 20) hc W_42 rfl (by decide) (by decide) (by decide) ⟨by rw [hR]; exact Nat.le_of_ble_eq_true rfl, by rw [hR]; exact Nat.le_of_ble_eq_true rfl⟩ dX12_init_190 ?_
  show Og X _ Q (PsI _ D ids n0 _ _) 22 3605 192 [(0, .ref (n0 + 0))] [.ref (n0 + 22), .ref (n0 + 0)]
  refine oi_putr (q := 22) hc hin FF_X12_82 rfl ⟨Nat.le_of_ble_eq_true rfl, rfl⟩ dX12_init_192 ?_
  refine og_aload_n 0 hc dX12_init_195 rfl rfl ?_
  refine og_bipush (v := 20) hc dX12_init_196 (by decide) ?_
  refine oi_newi (N := 20) hc W_42 rfl (by decide) (by decide) (by decide) ⟨by rw [hR]; exact Nat.le_of_ble_eq_true rfl, by rw [hR]; exact Nat.le_of_ble_eq_true rfl⟩ dX12_init_198 ?_
  show Og X _ Q (PsI _ D ids n0 _ _) 23 3625 200 [(0, .ref (n0 + 0))] [.ref (n0 + 23), .ref (n0 + 0)]
  refine oi_putr (q := 23) hc hin FF_X12_85 rfl ⟨Nat.le_of_ble_eq_true rfl, rfl⟩ dX12_init_200 ?_
  refine og_aload_n 0 hc dX12_init_203 rfl rfl ?_
  refine og_bipush (v := 20) hc dX12_init_204 (by decide) ?_
  refine oi_newi (N := 20) hc W_42 rfl (by decide) (by decide) (by decide) ⟨by rw [hR]; exact Nat.le_of_ble_eq_true rfl, by rw [hR]; exact Nat.le_of_ble_eq_true rfl⟩ dX12_init_206 ?_
  show Og X _ Q (PsI _ D ids n0 _ _) 24 3645 208 [(0, .ref (n0 + 0))] [.ref (n0 + 24), .ref (n0 + 0)]
  refine oi_putr (q := 24) hc hin FF_X12_88 rfl ⟨Nat.le_of_ble_eq_true rfl, rfl⟩ dX12_init_208 ?_
  refine og_aload_n 0 hc dX12_init_211 rfl rfl ?_
  refine og_bipush (v := 8) hc dX12_init_212 (by decide) ?_
  refine oi_newi (N := 8) hc W_42 rfl (by decide) (by decide) (by decide) ⟨by rw [hR]; exact Nat.le_of_ble_eq_true rfl, by rw [hR]; exact Nat.le_of_ble_eq_true rfl⟩ dX12_init_214 ?_
  show Og X _ Q (PsI _ D ids n0 _ _) 25 3653 216 [(0, .ref (n0 + 0))] [.ref (n0 + 25), .ref (n0 + 0)]
  refine oi_putr (q := 25) hc hin FF_X12_91 rfl ⟨Nat.le_of_ble_eq_true rfl, rfl⟩ dX12_init_216 ?_
  refine og_aload_n 0 hc dX12_init_219 rfl rfl ?_
  refine og_bipush (v := 8) hc dX12_init_220 (by decide) ?_
  refine oi_newi (N := 8) hc W_42 rfl (by decide) (by decide) (by decide) ⟨by rw [hR]; exact Nat.le_of_ble_eq_true rfl, by rw [hR]; exact Nat.le_of_ble_eq_true rfl⟩ dX12_init_222 ?_
  show Og X _ Q (PsI _ D ids n0 _ _) 26 3661 224 [(0, .ref (n0 + 0))] [.ref (n0 + 26), .ref (n0 + 0)]
  refine oi_putr (q := 26) hc hin FF_X12_94 rfl ⟨Nat.le_of_ble_eq_true rfl, rfl⟩ dX12_init_224 ?_
  refine og_aload_n 0 hc dX12_init_227 rfl rfl ?_
  refine og_bipush (v := 120) hc dX12_init_228 (by decide) ?_
  refine oi_newi (N := 120) hc W_42 rfl (by decide) (by decide) (by decide) ⟨by rw [hR]; exact Nat.le_of_ble_eq_true rfl, by rw [hR]; exact Nat.le_of_ble_eq_true rfl⟩ dX12_init_230 ?_
  show Og X _ Q (PsI _ D ids n0 _ _) 27 3781 232 [(0, .ref (n0 + 0))] [.ref (n0 + 27), .ref (n0 + 0)]
  refine oi_putr (q := 27) hc hin FF_X12_97 rfl ⟨Nat.le_of_ble_eq_true rfl, rfl⟩ dX12_init_232 ?_
  refine og_aload_n 0 hc dX12_init_235 rfl rfl ?_
  refine og_bipush (v := 30) hc dX12_init_236 (by decide) ?_
  refine oi_newz (N := 30) hc W_240 rfl (by decide) (by decide) (by decide) ⟨by rw [hR]; exact Nat.le_of_ble_eq_true rfl, by rw [hR]; exact Nat.le_of_ble_eq_true rfl⟩ dX12_init_238 ?_
  show Og X _ Q (PsI _ D ids n0 _ _) 28 3811 240 [(0, .ref (n0 + 0))] [.ref (n0 + 28), .ref (n0 + 0)]
  refine oi_putr (q := 28) hc hin FF_X12_100 rfl ⟨Nat.le_of_ble_eq_true rfl, rfl⟩ dX12_init_240 ?_
  refine og_aload_n 0 hc dX12_init_243 rfl rfl ?_
  refine og_bipush (v := 30) hc dX12_init_244 (by decide) ?_
  refine oi_newi (N := 30) hc W_42 rfl (by decide) (by decide) (by decide) ⟨by rw [hR]; exact Nat.le_of_ble_eq_true rfl, by rw [hR]; exact Nat.le_of_ble_eq_true rfl⟩ dX12_init_246 ?_
  show Og X _ Q (PsI _ D ids n0 _ _) 29 3841 248 [(0, .ref (n0 + 0))] [.ref (n0 + 29), .ref (n0 + 0)]
  refine oi_putr (q := 29) hc hin FF_X12_103 rfl ⟨Nat.le_of_ble_eq_true rfl, rfl⟩ dX12_init_248 ?_
  refine og_aload_n 0 hc dX12_init_251 rfl rfl ?_
  refine og_bipush (v := 30) hc dX12_init_252 (by decide) ?_
  refine oi_newi (N := 30) hc W_42 rfl (by decide) (by decide) (by decide) ⟨by rw [hR]; exact Nat.le_of_ble_eq_true rfl, by rw [hR]; exact Nat.le_of_ble_eq_true rfl⟩ dX12_init_254 ?_
  show Og X _ Q (PsI _ D ids n0 _ _) 30 3871 256 [(0, .ref (n0 + 0))] [.ref (n0 + 30), .ref (n0 + 0)]
  refine oi_putr (q := 30) hc hin FF_X12_106 rfl ⟨Nat.le_of_ble_eq_true rfl, rfl⟩ dX12_init_256 ?_
  refine og_aload_n 0 hc dX12_init_259 rfl rfl ?_
  refine og_bipush (v := 30) hc dX12_init_260 (by decide) ?_
  refine oi_newi (N := 30) hc W_42 rfl (by decide) (by decide) (by decide) ⟨by rw [hR]; exact Nat.le_of_ble_eq_true rfl, by rw [hR]; exact Nat.le_of_ble_eq_true rfl⟩ dX12_init_262 ?_
  show Og X _ Q (PsI _ D ids n0 _ _) 31 3901 264 [(0, .ref (n0 + 0))] [.ref (n0 + 31), .ref (n0 + 0)]
  refine oi_putr (q := 31) hc hin FF_X12_109 rfl ⟨Nat.le_of_ble_eq_true rfl, rfl⟩ dX12_init_264 ?_
  refine og_aload_n 0 hc dX12_init_267 rfl rfl ?_
  refine og_bipush (v := 30) hc dX12_init_268 (by decide) ?_
  refine oi_newi (N := 30) hc W_42 rfl (by decide) (by decide) (by decide) ⟨by rw [hR]; exact Nat.le_of_ble_eq_true rfl, by rw [hR]; exact Nat.le_of_ble_eq_true rfl⟩ dX12_init_270 ?_
  show Og X _ Q (PsI _ D ids n0 _ _) 32 3931 272 [(0, .ref (n0 + 0))] [.ref (n0 + 32), .ref (n0 + 0)]
  refine oi_putr (q := 32) hc hin FF_X12_112 rfl ⟨Nat.le_of_ble_eq_true rfl, rfl⟩ dX12_init_272 ?_
  refine og_aload_n 0 hc dX12_init_275 rfl rfl ?_
  refine og_bipush (v := 30) hc dX12_init_276 (by decide) ?_
  refine oi_newi (N := 30) hc W_42 rfl (by decide) (by decide) (by decide) ⟨by rw [hR]; exact Nat.le_of_ble_eq_true rfl, by rw [hR]; exact Nat.le_of_ble_eq_true rfl⟩ dX12_init_278 ?_
  show Og X _ Q (PsI _ D ids n0 _ _) 33 3961 280 [(0, .ref (n0 + 0))] [.ref (n0 + 33), .ref (n0 + 0)]
  refine oi_putr (q := 33) hc hin FF_X12_115 rfl ⟨Nat.le_of_ble_eq_true rfl, rfl⟩ dX12_init_280 ?_
  refine og_aload_n 0 hc dX12_init_283 rfl rfl ?_
  refine og_bipush (v := 8) hc dX12_init_284 (by decide) ?_
  refine oi_newi (N := 8) hc W_42 rfl (by decide) (by decide) (by decide) ⟨by rw [hR]; exact Nat.le_of_ble_eq_true rfl, by rw [hR]; exact Nat.le_of_ble_eq_true rfl⟩ dX12_init_286 ?_
  show Og X _ Q (PsI _ D ids n0 _ _) 34 3969 288 [(0, .ref (n0 + 0))] [.ref (n0 + 34), .ref (n0 + 0)]
  refine oi_putr (q := 34) hc hin FF_X12_118 rfl ⟨Nat.le_of_ble_eq_true rfl, rfl⟩ dX12_init_288 ?_
  refine og_aload_n 0 hc dX12_init_291 rfl rfl ?_
  refine og_bipush (v := 8) hc dX12_init_292 (by decide) ?_
  refine oi_newi (N := 8) hc W_42 rfl (by decide) (by decide) (by decide) ⟨by rw [hR]; exact Nat.le_of_ble_eq_true rfl, by rw [hR]; exact Nat.le_of_ble_eq_true rfl⟩ dX12_init_294 ?_
  show Og X _ Q (PsI _ D ids n0 _ _) 35 3977 296 [(0, .ref (n0 + 0))] [.ref (n0 + 35), .ref (n0 + 0)]
  refine oi_putr (q := 35) hc hin FF_X12_121 rfl ⟨Nat.le_of_ble_eq_true rfl, rfl⟩ dX12_init_296 ?_
  refine og_aload_n 0 hc dX12_init_299 rfl rfl ?_
  refine og_bipush (v := 6) hc dX12_init_300 (by decide) ?_
  refine oi_newi (N := 6) hc W_42 rfl (by decide) (by decide) (by decide) ⟨by rw [hR]; exact Nat.le_of_ble_eq_true rfl, by rw [hR]; exact Nat.le_of_ble_eq_true rfl⟩ dX12_init_302 ?_
  show Og X _ Q (PsI _ D ids n0 _ _) 36 3983 304 [(0, .ref (n0 + 0))] [.ref (n0 + 36), .ref (n0 + 0)]
  refine oi_putr (q := 36) hc hin FF_X12_124 rfl ⟨Nat.le_of_ble_eq_true rfl, rfl⟩ dX12_init_304 ?_
  refine og_aload_n 0 hc dX12_init_307 rfl rfl ?_
  refine og_bipush (v := 6) hc dX12_init_308 (by decide) ?_
  refine oi_newi (N := 6) hc W_42 rfl (by decide) (by decide) (by decide) ⟨by rw [hR]; exact Nat.le_of_ble_eq_true rfl, by rw [hR]; exact Nat.le_of_ble_eq_true rfl⟩ dX12_init_310 ?_
  show Og X _ Q (PsI _ D ids n0 _ _) 37 3989 312 [(0, .ref (n0 + 0))] [.ref (n0 + 37), .ref (n0 + 0)]
  refine oi_putr (q := 37) hc hin FF_X12_127 rfl ⟨Nat.le_of_ble_eq_true rfl, rfl⟩ dX12_init_312 ?_
  refine og_aload_n 0 hc dX12_init_315 rfl rfl ?_
  refine og_bipush (v := 12) hc dX12_init_316 (by decide) ?_
  refine oi_newi (N := 12) hc W_42 rfl (by decide) (by decide) (by decide) ⟨by rw [hR]; exact Nat.le_of_ble_eq_true rfl, by rw [hR]; exact Nat.le_of_ble_eq_true rfl⟩ dX12_init_318 ?_
  show Og X _ Q (PsI _ D ids n0 _ _) 38 4001 320 [(0, .ref (n0 + 0))] [.ref (n0 + 38), .ref (n0 + 0)]
  refine oi_putr (q := 38) hc hin FF_X12_130 rfl ⟨Nat.le_of_ble_eq_true rfl, rfl⟩ dX12_init_320 ?_
  refine og_aload_n 0 hc dX12_init_323 rfl rfl ?_
  refine og_bipush (v := 12) hc dX12_init_324 (by decide) ?_
  refine oi_newi (N := 12) hc W_42 rfl (by decide) (by decide) (by decide) ⟨by rw [hR]; exact Nat.le_of_ble_eq_true rfl, by rw [hR]; exact Nat.le_of_ble_eq_true rfl⟩ dX12_init_326 ?_
  show Og X _ Q (PsI _ D ids n0 _ _) 39 4013 328 [(0, .ref (n0 + 0))] [.ref (n0 + 39), .ref (n0 + 0)]
  refine oi_putr (q := 39) hc hin FF_X12_133 rfl ⟨Nat.le_of_ble_eq_true rfl, rfl⟩ dX12_init_328 ?_
  refine og_aload_n 0 hc dX12_init_331 rfl rfl ?_
  refine og_bipush (v := 12) hc dX12_init_332 (by decide) ?_
  refine oi_newi (N := 12) hc W_42 rfl (by decide) (by decide) (by decide) ⟨by rw [hR]; exact Nat.le_of_ble_eq_true rfl, by rw [hR]; exact Nat.le_of_ble_eq_true rfl⟩ dX12_init_334 ?_
  show Og X _ Q (PsI _ D ids n0 _ _) 40 4025 336 [(0, .ref (n0 + 0))] [.ref (n0 + 40), .ref (n0 + 0)]
  refine oi_putr (q := 40) hc hin FF_X12_136 rfl ⟨Nat.le_of_ble_eq_true rfl, rfl⟩ dX12_init_336 ?_
  refine og_aload_n 0 hc dX12_init_339 rfl rfl ?_
  refine og_bipush (v := 12) hc dX12_init_340 (by decide) ?_
  refine oi_newi (N := 12) hc W_42 rfl (by decide) (by decide) (by decide) ⟨by rw [hR]; exact Nat.le_of_ble_eq_true rfl, by rw [hR]; exact Nat.le_of_ble_eq_true rfl⟩ dX12_init_342 ?_
  show Og X _ Q (PsI _ D ids n0 _ _) 41 4037 344 [(0, .ref (n0 + 0))] [.ref (n0 + 41), .ref (n0 + 0)]
  refine oi_putr (q := 41) hc hin FF_X12_139 rfl ⟨Nat.le_of_ble_eq_true rfl, rfl⟩ dX12_init_344 ?_
  refine og_aload_n 0 hc dX12_init_347 rfl rfl ?_
  refine og_sipush (v := 144) hc dX12_init_348 (by decide) ?_
  refine oi_newi (N := 144) hc W_42 rfl (by decide) (by decide) (by decide) ⟨by rw [hR]; exact Nat.le_of_ble_eq_true rfl, by rw [hR]; exact Nat.le_of_ble_eq_true rfl⟩ dX12_init_351 ?_
  show Og X _ Q (PsI _ D ids n0 _ _) 42 4181 353 [(0, .ref (n0 + 0))] [.ref (n0 + 42), .ref (n0 + 0)]
  refine oi_putr (q := 42) hc hin FF_X12_142 rfl ⟨Nat.le_of_ble_eq_true rfl, rfl⟩ dX12_init_353 ?_
  refine og_aload_n 0 hc dX12_init_356 rfl rfl ?_
  refine oi_getr (q := 5) hc FS_X12_30 rfl ⟨Nat.le_of_ble_eq_true rfl, rfl⟩ rfl dX12_init_357 ?_
  refine og_iconst (v := 0) hc dX12_init_360 (by decide) ?_
  refine og_iconst (v := 5) hc dX12_init_361 (by decide) ?_
  refine oi_iast hc ⟨Nat.le_of_ble_eq_true rfl, rfl⟩ (by decide) dX12_init_362 ?_
  refine og_aload_n 0 hc dX12_init_363 rfl rfl ?_
  refine oi_getr (q := 5) hc FS_X12_30 rfl ⟨Nat.le_of_ble_eq_true rfl, rfl⟩ rfl dX12_init_364 ?_
  refine og_iconst (v := 1) hc dX12_init_367 (by decide) ?_
  refine og_bipush (v := 20) hc dX12_init_368 (by decide) ?_
  refine oi_iast hc ⟨Nat.le_of_ble_eq_true rfl, rfl⟩ (by decide) dX12_init_370 ?_
  refine og_aload_n 0 hc dX12_init_371 rfl rfl ?_
  refine oi_getr (q := 5) hc FS_X12_30 rfl ⟨Nat.le_of_ble_eq_true rfl, rfl⟩ rfl dX12_init_372 ?_
  refine og_iconst (v := 2) hc dX12_init_375 (by decide) ?_
  refine og_bipush (v := 10) hc dX12_init_376 (by decide) ?_
  refine oi_iast hc ⟨Nat.le_of_ble_eq_true rfl, rfl⟩ (by decide) dX12_init_378 ?_
  refine og_aload_n 0 hc dX12_init_379 rfl rfl ?_
  refine oi_getr (q := 5) hc FS_X12_30 rfl ⟨Nat.le_of_ble_eq_true rfl, rfl⟩ rfl dX12_init_380 ?_
  refine og_iconst (v := 3) hc dX12_init_383 (by decide) ?_
  refine og_bipush (v := 100) hc dX12_init_384 (by decide) ?_
  refine oi_iast hc ⟨Nat.le_of_ble_eq_true rfl, rfl⟩ (by decide) dX12_init_386 ?_
  refine og_aload_n 0 hc dX12_init_387 rfl rfl ?_
  refine oi_getr (q := 5) hc FS_X12_30 rfl ⟨Nat.le_of_ble_eq_true rfl, rfl⟩ rfl dX12_init_388 ?_
  refine og_iconst (v := 4) hc dX12_init_391 (by decide) ?_
  refine og_bipush (v := 100) hc dX12_init_392 (by decide) ?_
  refine oi_iast hc ⟨Nat.le_of_ble_eq_true rfl, rfl⟩ (by decide) dX12_init_394 ?_
  refine og_iconst (v := 0) hc dX12_init_395 (by decide) ?_
  refine og_istore_n [(1, .int 0), (0, .ref (n0 + 0))] hc dX12_init_396 rfl (Nat.le_of_ble_eq_true rfl) rfl ?_
  refine og_iload_n 0 hc dX12_init_397 rfl rfl ?_
  refine og_bipush (v := 6) hc dX12_init_398 (by decide) ?_
  refine og_icmp_ge 416 hc dX12_init_400 (by decide) (fun hh => absurd hh (by decide)) (fun _ => ?_)
  refine og_aload_n 1 hc dX12_init_403 rfl rfl ?_
  refine oi_getr (q := 1) hc FS_X12_7 rfl ⟨Nat.le_of_ble_eq_true rfl, rfl⟩ rfl dX12_init_404 ?_
  refine og_iload_n 0 hc dX12_init_407 rfl rfl ?_
  refine og_iconst (v := (-1)) hc dX12_init_408 (by decide) ?_
  refine oi_iast hc ⟨Nat.le_of_ble_eq_true rfl, rfl⟩ (by decide) dX12_init_409 ?_
  refine og_iinc (v := 1) 0 [(1, .int 1), (0, .ref (n0 + 0))] hc dX12_init_410 rfl (by decide) (Nat.le_of_ble_eq_true rfl) rfl ?_
  refine og_goto 397 hc dX12_init_413 (by decide) ?_
  refine og_iload_n 0 hc dX12_init_397 rfl rfl ?_
  refine og_bipush (v := 6) hc dX12_init_398 (by decide) ?_
  refine og_icmp_ge 416 hc dX12_init_400 (by decide) (fun hh => absurd hh (by decide)) (fun _ => ?_)
  refine og_aload_n 1 hc dX12_init_403 rfl rfl ?_
  refine oi_getr (q := 1) hc FS_X12_7 rfl ⟨Nat.le_of_ble_eq_true rfl, rfl⟩ rfl dX12_init_404 ?_
  refine og_iload_n 0 hc dX12_init_407 rfl rfl ?_
  refine og_iconst (v := (-1)) hc dX12_init_408 (by decide) ?_
  refine oi_iast hc ⟨Nat.le_of_ble_eq_true rfl, rfl⟩ (by decide) dX12_init_409 ?_
  refine og_iinc (v := 2) 0 [(1, .int 2), (0, .ref (n0 + 0))] hc dX12_init_410 rfl (by decide) (Nat.le_of_ble_eq_true rfl) rfl ?_
  refine og_goto 397 hc dX12_init_413 (by decide) ?_
  refine og_iload_n 0 hc dX12_init_397 rfl rfl ?_
  refine og_bipush (v := 6) hc dX12_init_398 (by decide) ?_
  refine og_icmp_ge 416 hc dX12_init_400 (by decide) (fun hh => absurd hh (by decide)) (fun _ => ?_)
  refine og_aload_n 1 hc dX12_init_403 rfl rfl ?_
  refine oi_getr (q := 1) hc FS_X12_7 rfl ⟨Nat.le_of_ble_eq_true rfl, rfl⟩ rfl dX12_init_404 ?_
  refine og_iload_n 0 hc dX12_init_407 rfl rfl ?_
  refine og_iconst (v := (-1)) hc dX12_init_408 (by decide) ?_
  refine oi_iast hc ⟨Nat.le_of_ble_eq_true rfl, rfl⟩ (by decide) dX12_init_409 ?_
  refine og_iinc (v := 3) 0 [(1, .int 3), (0, .ref (n0 + 0))] hc dX12_init_410 rfl (by decide) (Nat.le_of_ble_eq_true rfl) rfl ?_
  refine og_goto 397 hc dX12_init_413 (by decide) ?_
  refine og_iload_n 0 hc dX12_init_397 rfl rfl ?_
  refine og_bipush (v := 6) hc dX12_init_398 (by decide) ?_
  refine og_icmp_ge 416 hc dX12_init_400 (by decide) (fun hh => absurd hh (by decide)) (fun _ => ?_)
  refine og_aload_n 1 hc dX12_init_403 rfl rfl ?_
  refine oi_getr (q := 1) hc FS_X12_7 rfl ⟨Nat.le_of_ble_eq_true rfl, rfl⟩ rfl dX12_init_404 ?_
  refine og_iload_n 0 hc dX12_init_407 rfl rfl ?_
  refine og_iconst (v := (-1)) hc dX12_init_408 (by decide) ?_
  refine oi_iast hc ⟨Nat.le_of_ble_eq_true rfl, rfl⟩ (by decide) dX12_init_409 ?_
  refine og_iinc (v := 4) 0 [(1, .int 4), (0, .ref (n0 + 0))] hc dX12_init_410 rfl (by decide) (Nat.le_of_ble_eq_true rfl) rfl ?_
  refine og_goto 397 hc dX12_init_413 (by decide) ?_
  refine og_iload_n 0 hc dX12_init_397 rfl rfl ?_
  refine og_bipush (v := 6) hc dX12_init_398 (by decide) ?_
  refine og_icmp_ge 416 hc dX12_init_400 (by decide) (fun hh => absurd hh (by decide)) (fun _ => ?_)
  refine og_aload_n 1 hc dX12_init_403 rfl rfl ?_
  refine oi_getr (q := 1) hc FS_X12_7 rfl ⟨Nat.le_of_ble_eq_true rfl, rfl⟩ rfl dX12_init_404 ?_
  refine og_iload_n 0 hc dX12_init_407 rfl rfl ?_
  refine og_iconst (v := (-1)) hc dX12_init_408 (by decide) ?_
  refine oi_iast hc ⟨Nat.le_of_ble_eq_true rfl, rfl⟩ (by decide) dX12_init_409 ?_
  refine og_iinc (v := 5) 0 [(1, .int 5), (0, .ref (n0 + 0))] hc dX12_init_410 rfl (by decide) (Nat.le_of_ble_eq_true rfl) rfl ?_
  refine og_goto 397 hc dX12_init_413 (by decide) ?_
  refine og_iload_n 0 hc dX12_init_397 rfl rfl ?_
  refine og_bipush (v := 6) hc dX12_init_398 (by decide) ?_
  refine og_icmp_ge 416 hc dX12_init_400 (by decide) (fun hh => absurd hh (by decide)) (fun _ => ?_)
  refine og_aload_n 1 hc dX12_init_403 rfl rfl ?_
  refine oi_getr (q := 1) hc FS_X12_7 rfl ⟨Nat.le_of_ble_eq_true rfl, rfl⟩ rfl dX12_init_404 ?_
  refine og_iload_n 0 hc dX12_init_407 rfl rfl ?_
  refine og_iconst (v := (-1)) hc dX12_init_408 (by decide) ?_
  refine oi_iast hc ⟨Nat.le_of_ble_eq_true rfl, rfl⟩ (by decide) dX12_init_409 ?_
  refine og_iinc (v := 6) 0 [(1, .int 6), (0, .ref (n0 + 0))] hc dX12_init_410 rfl (by decide) (Nat.le_of_ble_eq_true rfl) rfl ?_
  refine og_goto 397 hc dX12_init_413 (by decide) ?_
  refine og_iload_n 0 hc dX12_init_397 rfl rfl ?_
  refine og_bipush (v := 6) hc dX12_init_398 (by decide) ?_
  refine og_icmp_ge 416 hc dX12_init_400 (by decide) (fun _ => ?_) (fun hh => absurd (by decide) hh)
  refine og_iconst (v := 0) hc dX12_init_416 (by decide) ?_
  refine og_istore_n [(1, .int 0), (0, .ref (n0 + 0))] hc dX12_init_417 rfl (Nat.le_of_ble_eq_true rfl) rfl ?_
  refine og_iload_n 0 hc dX12_init_418 rfl rfl ?_
  refine og_bipush (v := 8) hc dX12_init_419 (by decide) ?_
  refine og_icmp_ge 437 hc dX12_init_421 (by decide) (fun hh => absurd hh (by decide)) (fun _ => ?_)
  refine og_aload_n 1 hc dX12_init_424 rfl rfl ?_
  refine oi_getr (q := 35) hc FS_X12_121 rfl ⟨Nat.le_of_ble_eq_true rfl, rfl⟩ rfl dX12_init_425 ?_
  refine og_iload_n 0 hc dX12_init_428 rfl rfl ?_
  refine og_iconst (v := (-1)) hc dX12_init_429 (by decide) ?_
  refine oi_iast hc ⟨Nat.le_of_ble_eq_true rfl, rfl⟩ (by decide) dX12_init_430 ?_
  refine og_iinc (v := 1) 0 [(1, .int 1), (0, .ref (n0 + 0))] hc dX12_init_431 rfl (by decide) (Nat.le_of_ble_eq_true rfl) rfl ?_
  refine og_goto 418 hc dX12_init_434 (by decide) ?_
  refine og_iload_n 0 hc dX12_init_418 rfl rfl ?_
  refine og_bipush (v := 8) hc dX12_init_419 (by decide) ?_
  refine og_icmp_ge 437 hc dX12_init_421 (by decide) (fun hh => absurd hh (by decide)) (fun _ => ?_)
  refine og_aload_n 1 hc dX12_init_424 rfl rfl ?_
  refine oi_getr (q := 35) hc FS_X12_121 rfl ⟨Nat.le_of_ble_eq_true rfl, rfl⟩ rfl dX12_init_425 ?_
  refine og_iload_n 0 hc dX12_init_428 rfl rfl ?_
  refine og_iconst (v := (-1)) hc dX12_init_429 (by decide) ?_
  refine oi_iast hc ⟨Nat.le_of_ble_eq_true rfl, rfl⟩ (by decide) dX12_init_430 ?_
  refine og_iinc (v := 2) 0 [(1, .int 2), (0, .ref (n0 + 0))] hc dX12_init_431 rfl (by decide) (Nat.le_of_ble_eq_true rfl) rfl ?_
  refine og_goto 418 hc dX12_init_434 (by decide) ?_
  refine og_iload_n 0 hc dX12_init_418 rfl rfl ?_
  refine og_bipush (v := 8) hc dX12_init_419 (by decide) ?_
  refine og_icmp_ge 437 hc dX12_init_421 (by decide) (fun hh => absurd hh (by decide)) (fun _ => ?_)
  refine og_aload_n 1 hc dX12_init_424 rfl rfl ?_
  refine oi_getr (q := 35) hc FS_X12_121 rfl ⟨Nat.le_of_ble_eq_true rfl, rfl⟩ rfl dX12_init_425 ?_
  refine og_iload_n 0 hc dX12_init_428 rfl rfl ?_
  refine og_iconst (v := (-1)) hc dX12_init_429 (by decide) ?_
  refine oi_iast hc ⟨Nat.le_of_ble_eq_true rfl, rfl⟩ (by decide) dX12_init_430 ?_
  refine og_iinc (v := 3) 0 [(1, .int 3), (0, .ref (n0 + 0))] hc dX12_init_431 rfl (by decide) (Nat.le_of_ble_eq_true rfl) rfl ?_
  refine og_goto 418 hc dX12_init_434 (by decide) ?_
  refine og_iload_n 0 hc dX12_init_418 rfl rfl ?_
  refine og_bipush (v := 8) hc dX12_init_419 (by decide) ?_
  refine og_icmp_ge 437 hc dX12_init_421 (by decide) (fun hh => absurd hh (by decide)) (fun _ => ?_)
  refine og_aload_n 1 hc dX12_init_424 rfl rfl ?_
  refine oi_getr (q := 35) hc FS_X12_121 rfl ⟨Nat.le_of_ble_eq_true rfl, rfl⟩ rfl dX12_init_425 ?_
  refine og_iload_n 0 hc dX12_init_428 rfl rfl ?_
  refine og_iconst (v := (-1)) hc dX12_init_429 (by decide) ?_
  refine oi_iast hc ⟨Nat.le_of_ble_eq_true rfl, rfl⟩ (by decide) dX12_init_430 ?_
  refine og_iinc (v := 4) 0 [(1, .int 4), (0, .ref (n0 + 0))] hc dX12_init_431 rfl (by decide) (Nat.le_of_ble_eq_true rfl) rfl ?_
  refine og_goto 418 hc dX12_init_434 (by decide) ?_
  refine og_iload_n 0 hc dX12_init_418 rfl rfl ?_
  refine og_bipush (v := 8) hc dX12_init_419 (by decide) ?_
  refine og_icmp_ge 437 hc dX12_init_421 (by decide) (fun hh => absurd hh (by decide)) (fun _ => ?_)
  refine og_aload_n 1 hc dX12_init_424 rfl rfl ?_
  refine oi_getr (q := 35) hc FS_X12_121 rfl ⟨Nat.le_of_ble_eq_true rfl, rfl⟩ rfl dX12_init_425 ?_
  refine og_iload_n 0 hc dX12_init_428 rfl rfl ?_
  refine og_iconst (v := (-1)) hc dX12_init_429 (by decide) ?_
  refine oi_iast hc ⟨Nat.le_of_ble_eq_true rfl, rfl⟩ (by decide) dX12_init_430 ?_
  refine og_iinc (v := 5) 0 [(1, .int 5), (0, .ref (n0 + 0))] hc dX12_init_431 rfl (by decide) (Nat.le_of_ble_eq_true rfl) rfl ?_
  refine og_goto 418 hc dX12_init_434 (by decide) ?_
  refine og_iload_n 0 hc dX12_init_418 rfl rfl ?_
  refine og_bipush (v := 8) hc dX12_init_419 (by decide) ?_
  refine og_icmp_ge 437 hc dX12_init_421 (by decide) (fun hh => absurd hh (by decide)) (fun _ => ?_)
  refine og_aload_n 1 hc dX12_init_424 rfl rfl ?_
  refine oi_getr (q := 35) hc FS_X12_121 rfl ⟨Nat.le_of_ble_eq_true rfl, rfl⟩ rfl dX12_init_425 ?_
  refine og_iload_n 0 hc dX12_init_428 rfl rfl ?_
  refine og_iconst (v := (-1)) hc dX12_init_429 (by decide) ?_
  refine oi_iast hc ⟨Nat.le_of_ble_eq_true rfl, rfl⟩ (by decide) dX12_init_430 ?_
  refine og_iinc (v := 6) 0 [(1, .int 6), (0, .ref (n0 + 0))] hc dX12_init_431 rfl (by decide) (Nat.le_of_ble_eq_true rfl) rfl ?_
  refine og_goto 418 hc dX12_init_434 (by decide) ?_
  refine og_iload_n 0 hc dX12_init_418 rfl rfl ?_
  refine og_bipush (v := 8) hc dX12_init_419 (by decide) ?_
  refine og_icmp_ge 437 hc dX12_init_421 (by decide) (fun hh => absurd hh (by decide)) (fun _ => ?_)
  refine og_aload_n 1 hc dX12_init_424 rfl rfl ?_
  refine oi_getr (q := 35) hc FS_X12_121 rfl ⟨Nat.le_of_ble_eq_true rfl, rfl⟩ rfl dX12_init_425 ?_
  refine og_iload_n 0 hc dX12_init_428 rfl rfl ?_
  refine og_iconst (v := (-1)) hc dX12_init_429 (by decide) ?_
  refine oi_iast hc ⟨Nat.le_of_ble_eq_true rfl, rfl⟩ (by decide) dX12_init_430 ?_
  refine og_iinc (v := 7) 0 [(1, .int 7), (0, .ref (n0 + 0))] hc dX12_init_431 rfl (by decide) (Nat.le_of_ble_eq_true rfl) rfl ?_
  refine og_goto 418 hc dX12_init_434 (by decide) ?_
  refine og_iload_n 0 hc dX12_init_418 rfl rfl ?_
  refine og_bipush (v := 8) hc dX12_init_419 (by decide) ?_
  refine og_icmp_ge 437 hc dX12_init_421 (by decide) (fun hh => absurd hh (by decide)) (fun _ => ?_)
  refine og_aload_n 1 hc dX12_init_424 rfl rfl ?_
  refine oi_getr (q := 35) hc FS_X12_121 rfl ⟨Nat.le_of_ble_eq_true rfl, rfl⟩ rfl dX12_init_425 ?_
  refine og_iload_n 0 hc dX12_init_428 rfl rfl ?_
  refine og_iconst (v := (-1)) hc dX12_init_429 (by decide) ?_
  refine oi_iast hc ⟨Nat.le_of_ble_eq_true rfl, rfl⟩ (by decide) dX12_init_430 ?_
  refine og_iinc (v := 8) 0 [(1, .int 8), (0, .ref (n0 + 0))] hc dX12_init_431 rfl (by decide) (Nat.le_of_ble_eq_true rfl) rfl ?_
  refine og_goto 418 hc dX12_init_434 (by decide) ?_
  refine og_iload_n 0 hc dX12_init_418 rfl rfl ?_
  refine og_bipush (v := 8) hc dX12_init_419 (by decide) ?_
  refine og_icmp_ge 437 hc dX12_init_421 (by decide) (fun _ => ?_) (fun hh => absurd (by decide) hh)
  exact hend _ _ dX12_init_437

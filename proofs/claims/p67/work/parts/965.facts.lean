/-! ===== the facts of the start (printed by wip/p67/gen_glue.py) ===== -/
theorem uws_in {C : String} {T : u_T} {N : Nat} {hs : List Nat} (h : ((List.range N).all fun k => xhas (u_lay C T k) (xph hs k)) = true) : ∀ w ∈ u_ws C T N, w ∈ xW := fun w hw => by
  obtain ⟨k, hk, e⟩ := List.mem_map.mp hw
  rw [← e]
  exact xhas_in (List.all_eq_true.mp h k hk)
theorem gw_0 : ∀ w ∈ u_ws RJ0 TJ0 4, w ∈ xW := uws_in (hs := [1066, 1068, 1070, 1072]) (by decide +kernel)
theorem gi_0 : Jvm.Cond.instantiable RJ0 4 ∈ xW := xhas_in (i := 1020) (by decide +kernel)
theorem gw_1 : ∀ w ∈ u_ws RJ4 TJ4 4, w ∈ xW := uws_in (hs := [469, 471, 473, 475]) (by decide +kernel)
theorem gi_1 : Jvm.Cond.instantiable RJ4 4 ∈ xW := xhas_in (i := 447) (by decide +kernel)
theorem gw_2 : ∀ w ∈ u_ws RX0 TX0 3, w ∈ xW := uws_in (hs := [337, 339, 341]) (by decide +kernel)
theorem gi_2 : Jvm.Cond.instantiable RX0 3 ∈ xW := xhas_in (i := 326) (by decide +kernel)
theorem gw_3 : ∀ w ∈ u_ws RX2 TX2 8, w ∈ xW := uws_in (hs := [267, 269, 271, 273, 275, 277, 279, 281]) (by decide +kernel)
theorem gi_3 : Jvm.Cond.instantiable RX2 8 ∈ xW := xhas_in (i := 252) (by decide +kernel)
theorem gw_4 : ∀ w ∈ u_ws RX3 TX3 12, w ∈ xW := uws_in (hs := [299, 301, 303, 305, 307, 309, 311, 313, 315, 317, 319, 321]) (by decide +kernel)
theorem gi_4 : Jvm.Cond.instantiable RX3 12 ∈ xW := xhas_in (i := 91) (by decide +kernel)
theorem gw_5 : ∀ w ∈ u_ws RX4 TX4 9, w ∈ xW := uws_in (hs := [359, 361, 363, 365, 367, 369, 371, 373, 375]) (by decide +kernel)
theorem gi_5 : Jvm.Cond.instantiable RX4 9 ∈ xW := xhas_in (i := 345) (by decide +kernel)
theorem gw_6 : ∀ w ∈ u_ws RX5 TX5 4, w ∈ xW := uws_in (hs := [137, 139, 141, 143]) (by decide +kernel)
theorem gi_6 : Jvm.Cond.instantiable RX5 4 ∈ xW := xhas_in (i := 127) (by decide +kernel)
theorem gw_7 : ∀ w ∈ u_ws RX6 TX6 9, w ∈ xW := uws_in (hs := [394, 396, 398, 400, 402, 404, 406, 408, 410]) (by decide +kernel)
theorem gi_7 : Jvm.Cond.instantiable RX6 9 ∈ xW := xhas_in (i := 379) (by decide +kernel)
theorem gw_8 : ∀ w ∈ u_ws RX7 TX7 7, w ∈ xW := uws_in (hs := [430, 432, 434, 436, 438, 440, 442]) (by decide +kernel)
theorem gi_8 : Jvm.Cond.instantiable RX7 7 ∈ xW := xhas_in (i := 414) (by decide +kernel)
theorem gw_9 : ∀ w ∈ u_ws RX8 TX8 8, w ∈ xW := uws_in (hs := [184, 186, 188, 190, 192, 194, 196, 198]) (by decide +kernel)
theorem gi_9 : Jvm.Cond.instantiable RX8 8 ∈ xW := xhas_in (i := 152) (by decide +kernel)
theorem gw_10 : ∀ w ∈ u_ws RX9 TX9 12, w ∈ xW := uws_in (hs := [227, 229, 231, 233, 235, 237, 239, 241, 243, 245, 247, 249]) (by decide +kernel)
theorem gi_10 : Jvm.Cond.instantiable RX9 12 ∈ xW := xhas_in (i := 146) (by decide +kernel)
theorem gw_11 : ∀ w ∈ u_ws RX10 TX10 4, w ∈ xW := uws_in (hs := [116, 118, 120, 122]) (by decide +kernel)
theorem gi_11 : Jvm.Cond.instantiable RX10 4 ∈ xW := xhas_in (i := 104) (by decide +kernel)
theorem gw_12 : ∀ w ∈ u_ws RX11 TX11 10, w ∈ xW := uws_in (hs := [489, 491, 493, 495, 497, 499, 501, 503, 505, 507]) (by decide +kernel)
theorem gi_12 : Jvm.Cond.instantiable RX11 10 ∈ xW := xhas_in (i := 83) (by decide +kernel)
theorem gw_13 : ∀ w ∈ u_ws RX12 TX12 5, w ∈ xW := uws_in (hs := [1655, 1657, 1659, 1661, 1663]) (by decide +kernel)
theorem gi_13 : Jvm.Cond.instantiable RX12 5 ∈ xW := xhas_in (i := 1633) (by decide +kernel)
theorem gw_14 : ∀ w ∈ u_ws RX13 TX13 4, w ∈ xW := uws_in (hs := [551, 553, 555, 557]) (by decide +kernel)
theorem gi_14 : Jvm.Cond.instantiable RX13 4 ∈ xW := xhas_in (i := 531) (by decide +kernel)
theorem gw_15 : ∀ w ∈ u_ws RX14 TX14 1, w ∈ xW := uws_in (hs := [520]) (by decide +kernel)
theorem gi_15 : Jvm.Cond.instantiable RX14 1 ∈ xW := xhas_in (i := 511) (by decide +kernel)
theorem gw_16 : ∀ w ∈ u_ws RX15 TX15 7, w ∈ xW := uws_in (hs := [580, 582, 584, 586, 588, 590, 592]) (by decide +kernel)
theorem gi_16 : Jvm.Cond.instantiable RX15 7 ∈ xW := xhas_in (i := 561) (by decide +kernel)
theorem gcl_all : ∀ (c : Nat) (q : vw_C), vwCl[c]? = some q → (∀ w ∈ u_ws q.1 q.2.1 q.2.2, w ∈ xW) ∧ (∃ n, Jvm.Cond.instantiable q.1 n ∈ xW) ∧ (∀ k, k < q.2.2 → parseFieldDescriptor (q.2.1 k).2.2.1 = some (xTy c k)) ∧ ∀ a, a < q.2.2 → ∀ b, b < q.2.2 → a ≠ b → (q.2.1 a).2.1 ≠ (q.2.1 b).2.1 := by
  intro c q h
  match c, h with
  | 0, h =>
    cases h
    exact ⟨gw_0, ⟨_, gi_0⟩, tyJ0_ok, nmJ0⟩
  | 1, h =>
    cases h
    exact ⟨gw_1, ⟨_, gi_1⟩, tyJ4_ok, nmJ4⟩
  | 2, h =>
    cases h
    exact ⟨gw_2, ⟨_, gi_2⟩, tyX0_ok, nmX0⟩
  | 3, h =>
    cases h
    exact ⟨gw_3, ⟨_, gi_3⟩, tyX2_ok, nmX2⟩
  | 4, h =>
    cases h
    exact ⟨gw_4, ⟨_, gi_4⟩, tyX3_ok, nmX3⟩
  | 5, h =>
    cases h
    exact ⟨gw_5, ⟨_, gi_5⟩, tyX4_ok, nmX4⟩
  | 6, h =>
    cases h
    exact ⟨gw_6, ⟨_, gi_6⟩, tyX5_ok, nmX5⟩
  | 7, h =>
    cases h
    exact ⟨gw_7, ⟨_, gi_7⟩, tyX6_ok, nmX6⟩
  | 8, h =>
    cases h
    exact ⟨gw_8, ⟨_, gi_8⟩, tyX7_ok, nmX7⟩
  | 9, h =>
    cases h
    exact ⟨gw_9, ⟨_, gi_9⟩, tyX8_ok, nmX8⟩
  | 10, h =>
    cases h
    exact ⟨gw_10, ⟨_, gi_10⟩, tyX9_ok, nmX9⟩
  | 11, h =>
    cases h
    exact ⟨gw_11, ⟨_, gi_11⟩, tyX10_ok, nmX10⟩
  | 12, h =>
    cases h
    exact ⟨gw_12, ⟨_, gi_12⟩, tyX11_ok, nmX11⟩
  | 13, h =>
    cases h
    exact ⟨gw_13, ⟨_, gi_13⟩, tyX12_ok, nmX12⟩
  | 14, h =>
    cases h
    exact ⟨gw_14, ⟨_, gi_14⟩, tyX13_ok, nmX13⟩
  | 15, h =>
    cases h
    exact ⟨gw_15, ⟨_, gi_15⟩, tyX14_ok, nmX14⟩
  | 16, h =>
    cases h
    exact ⟨gw_16, ⟨_, gi_16⟩, tyX15_ok, nmX15⟩
  | k + 17, h => exact nomatch (show (none : Option vw_C) = some q from h)
theorem hcf_all : ∀ (ci N : Nat) (C : String) (T : u_T), vwCl[ci]? = some (C, T, N) → xcf xW ci C T N (xTy ci) := fun ci N C T h => by
  obtain ⟨h1, -, h3, h4⟩ := gcl_all ci _ h
  exact ⟨h, h1, h3, h4⟩
theorem ga_int : Jvm.Cond.arrayClass .int ∈ lw_tbx := xW_in (xhas_in (i := 125) (by decide +kernel))
theorem ga_long : Jvm.Cond.arrayClass .long ∈ lw_tbx := xW_in (xhas_in (i := 126) (by decide +kernel))
theorem ga_boolean : Jvm.Cond.arrayClass .boolean ∈ lw_tbx := xW_in (xhas_in (i := 1802) (by decide +kernel))
theorem ga_byte : Jvm.Cond.arrayClass .byte ∈ lw_tbx := xW_in (xhas_in (i := 478) (by decide +kernel))
theorem ga_char : Jvm.Cond.arrayClass .char ∈ lw_tbx := xW_in (xhas_in (i := 445) (by decide +kernel))
theorem go_arr : Jvm.Cond.arrayOver (.array .int) ∈ lw_tbx := List.mem_of_getElem? (i := 1626) (by decide +kernel)
theorem go_6 : Jvm.Cond.arrayOver (.object "Calendarhall$Hall") ∈ lw_tbx := List.mem_of_getElem? (i := 324) (by decide +kernel)
theorem go_7 : Jvm.Cond.arrayOver (.object "Calendarhall$Zone") ∈ lw_tbx := List.mem_of_getElem? (i := 97) (by decide +kernel)
theorem go_8 : Jvm.Cond.arrayOver (.object "Calendarhall$Person") ∈ lw_tbx := List.mem_of_getElem? (i := 99) (by decide +kernel)
theorem go_9 : Jvm.Cond.arrayOver (.object "Calendarhall$Series") ∈ lw_tbx := List.mem_of_getElem? (i := 101) (by decide +kernel)
theorem go_10 : Jvm.Cond.arrayOver (.object "Calendarhall$Device") ∈ lw_tbx := List.mem_of_getElem? (i := 103) (by decide +kernel)
theorem go_11 : Jvm.Cond.arrayOver (.object "java/lang/String") ∈ lw_tbx := List.mem_of_getElem? (i := 882) (by decide +kernel)
theorem gnw_all : ((List.range xNw.length).all fun k => decide (lw_tbx[([541, 542, 544, 545, 547, 549, 550, 562, 567, 569, 571, 573, 575, 577, 578, 1646, 1648, 1650, 1652, 1654, 97, 99, 101, 103, 324, 882, 1626, 934] : List Nat).getD k 0]? = xNw[k]?)) = true := by decide +kernel
theorem gnw_in : ∀ w ∈ xNw, w ∈ lw_tbx := fun w hw => by
  obtain ⟨k, hk, e⟩ := List.mem_iff_getElem.mp hw
  have q := of_decide_eq_true (List.all_eq_true.mp gnw_all k (List.mem_range.mpr hk))
  rw [List.getElem?_eq_getElem hk, e] at q
  exact List.mem_of_getElem? q
theorem gst_all : ((List.range xStr.length).all fun k => decide (lw_tbx[([883, 884, 885, 886, 887, 888, 889, 890, 891, 892, 893, 894, 895, 1014, 1075, 1101, 1102, 1103, 1104, 1105, 1106, 1107, 1108, 1109, 1175, 1186, 1195, 1196, 1197, 1198, 1207, 1208, 1213, 1217, 1218, 1219, 1220, 1221, 1226, 1231, 1282, 1284, 1303, 1304, 1305, 1310, 1311, 1312, 1314, 1316, 1317] : List Nat).getD k 0]? = (xStr[k]?).map (fun q => Jvm.Cond.stringRef q.1 q.2.1 q.2.2.1))) = true := by decide +kernel
theorem gst_in : ∀ q ∈ xStr, Jvm.Cond.stringRef q.1 q.2.1 q.2.2.1 ∈ lw_tbx := fun w hw => by
  obtain ⟨k, hk, e⟩ := List.mem_iff_getElem.mp hw
  have q := of_decide_eq_true (List.all_eq_true.mp gst_all k (List.mem_range.mpr hk))
  rw [List.getElem?_eq_getElem hk, e] at q
  exact List.mem_of_getElem? q
/-- what is said of a String constant -/
def strW (o : String) (k : Nat) (L : List Int) : List Jvm.Cond := [.exactly (.string o k) "java/lang/String", .eq (.field (.string o k) "java/lang/String" "coder" "B") (.int 0), .arrayOf (.field (.string o k) "java/lang/String" "value" "[B") .byte, .eq (.length (.field (.string o k) "java/lang/String" "value" "[B")) (.int (Int32.ofNat L.length))] ++ (List.range L.length).map (fun j => .eq (.elem (.field (.string o k) "java/lang/String" "value" "[B") (.int (Int32.ofNat j))) (.int (yw (L.getD j 0))))
/-- of a static row of numbers -/
def rowW (C n d : String) (ty : FieldType) (L : List Int) : List Jvm.Cond := [.arrayOf (.static C n d) ty, .eq (.length (.static C n d)) (.int (Int32.ofNat L.length))] ++ (List.range L.length).map (fun j => .eq (.elem (.static C n d) (.int (Int32.ofNat j))) (.int (yw (L.getD j 0))))
def FLn : List Jvm.Cond := flatC narrow_1
/-- the first constant of each text: its class, its place there, where its words stand -/
def stP : List (String × Nat × Nat) := [("CalendarhallLaw$Rule", 67, 332), ("CalendarhallLaw$Rule", 69, 338), ("CalendarhallLaw$Rule", 71, 344), ("CalendarhallLaw$Rule", 73, 350), ("CalendarhallLaw$Rule", 75, 356), ("CalendarhallLaw$Rule", 77, 362), ("CalendarhallLaw$Rule", 79, 368), ("CalendarhallLaw$Rule", 81, 374), ("CalendarhallLaw$Rule", 82, 383), ("CalendarhallLaw$Rule", 84, 393), ("CalendarhallLaw$Rule", 86, 402), ("CalendarhallLaw$Rule", 88, 412), ("CalendarhallLaw$Rule", 90, 421), ("CalendarhallLaw$Rule", 99, 425), ("CalendarhallLaw$Rule", 105, 430), ("CalendarhallLaw$Rule", 110, 440), ("CalendarhallLaw$Rule", 112, 448), ("CalendarhallLaw$Rule", 114, 456), ("CalendarhallLaw$Rule", 116, 468), ("CalendarhallLaw$Rule", 118, 477), ("CalendarhallLaw$Rule", 120, 491), ("CalendarhallLaw$Rule", 121, 499), ("CalendarhallLaw$Rule", 123, 507), ("CalendarhallLaw$Rule", 125, 516), ("Calendarhall$Reader", 95, 536), ("Calendarhall$Reader", 114, 564), ("Calendarhall$Reader", 116, 573), ("Calendarhall$Reader", 140, 579), ("Calendarhall$Reader", 121, 597), ("Calendarhall$Reader", 142, 668), ("Calendarhall$Reader", 148, 675)]
theorem gsp_all : ((List.range 31).all fun i => match stP[i]? with
  | some q => decide ((FLn.drop q.2.2).take (4 + (tq (10 + 2 * i)).length) = strW q.1 q.2.1 (tq (10 + 2 * i)))
  | none => false) = true := by decide +kernel
def tens : List Int := (List.range 100).map (fun i => 48 + ((i / 10 : Nat) : Int))
def ones : List Int := (List.range 100).map (fun i => 48 + ((i % 10 : Nat) : Int))
theorem grow_1 : (FLn.drop 216).take (2 + mvs.length) = rowW "Calendarhall$Planner" "MOVES" "[I" .int mvs := by decide +kernel
theorem grow_2 : (FLn.drop 113).take (2 + tens.length) = rowW "java/lang/Integer" "DigitTens" "[B" .byte tens := by decide +kernel
theorem grow_3 : (FLn.drop 10).take (2 + ones.length) = rowW "java/lang/Integer" "DigitOnes" "[B" .byte ones := by decide +kernel
theorem gcs : Jvm.Cond.eq (.static "java/lang/String" "COMPACT_STRINGS" "Z") (.int 1) ∈ FLn := List.mem_of_getElem? (i := 2) (by decide +kernel)
theorem gfm : Jvm.Cond.isRef (.static "jdk/internal/util/Preconditions" "SIOOBE_FORMATTER" "Ljava/util/function/BiFunction;") ∈ FLn := List.mem_of_getElem? (i := 5) (by decide +kernel)
theorem geq_all : ((List.range xStr.length).all fun k => match xStr[k]? with
  | some q => (match stP[(q.2.2.2 - 10) / 2]? with
    | some r => decide (q.1 = r.1 ∧ q.2.1 = r.2.1) || decide (FLn[([0, 0, 0, 0, 0, 0, 0, 0, 0, 0, 0, 0, 0, 0, 0, 0, 0, 0, 0, 0, 0, 0, 0, 0, 535, 0, 553, 563, 0, 0, 0, 0, 615, 625, 636, 646, 657, 667, 0, 0, 692, 704, 713, 727, 737, 753, 762, 772, 791, 801, 813] : List Nat).getD k 0]? = some (Jvm.Cond.eq (.string r.1 r.2.1) (.string q.1 q.2.1)))
    | none => false)
  | none => false) = true := by decide +kernel
theorem gid_all : (xStr.all fun q => decide (10 ≤ q.2.2.2 ∧ q.2.2.2 < 72 ∧ q.2.2.2 % 2 = 0)) = true := by decide +kernel
theorem gls_0 : Jvm.Cond.laysStatic "Calendarhall$Planner" "MOVES" "[I" ∈ lw_tbx := List.mem_of_getElem? (i := 1914) (by decide +kernel)
theorem gin_0 : Jvm.Cond.initialized "Calendarhall$Planner" ∈ lw_tbx := List.mem_of_getElem? (i := 57) (by decide +kernel)
theorem gls_1 : Jvm.Cond.laysStatic "java/lang/Integer" "DigitTens" "[B" ∈ lw_tbx := List.mem_of_getElem? (i := 1092) (by decide +kernel)
theorem gin_1 : Jvm.Cond.initialized "java/lang/Integer" ∈ lw_tbx := List.mem_of_getElem? (i := 75) (by decide +kernel)
theorem gls_2 : Jvm.Cond.laysStatic "java/lang/Integer" "DigitOnes" "[B" ∈ lw_tbx := List.mem_of_getElem? (i := 1090) (by decide +kernel)
theorem gin_2 : Jvm.Cond.initialized "java/lang/Integer" ∈ lw_tbx := List.mem_of_getElem? (i := 75) (by decide +kernel)
theorem gls_3 : Jvm.Cond.laysStatic "java/lang/String" "COMPACT_STRINGS" "Z" ∈ lw_tbx := List.mem_of_getElem? (i := 456) (by decide +kernel)
theorem gin_3 : Jvm.Cond.initialized "java/lang/String" ∈ lw_tbx := List.mem_of_getElem? (i := 61) (by decide +kernel)
theorem gls_4 : Jvm.Cond.laysStatic "jdk/internal/util/Preconditions" "SIOOBE_FORMATTER" "Ljava/util/function/BiFunction;" ∈ lw_tbx := List.mem_of_getElem? (i := 958) (by decide +kernel)
theorem gin_4 : Jvm.Cond.initialized "jdk/internal/util/Preconditions" ∈ lw_tbx := List.mem_of_getElem? (i := 78) (by decide +kernel)

theorem xw251_0 : xckP xY xP (xB 251) (xY 251) xm251.1 0 40 [[], [], [], [], [], [], [], [], [], [], [], [], [], [], [], [], [], [], []] = true := by decide +kernel
theorem xv251 : xVm xY xB xP 251 xm251 := xckM_ok (hc := 1383) (by decide +kernel) (xck_cut (a := 0) (n := 40) (fun q hq => xckL_ok xw251_0 q hq) (xck_end (by decide +kernel)))
theorem xw252_0 : xckP xY xP (xB 252) (xY 252) xm252.1 0 40 [[], [], [], [], [867], [], [], [], [], [868], [], [], [], [], [868], [], [], [], [], [], [], [], [], [869], [], [], [], [], [], [], [], [], [], [], [], [], [], [], [], []] = true := by decide +kernel
theorem xw252_40 : xckP xY xP (xB 252) (xY 252) xm252.1 40 40 [[], []] = true := by decide +kernel
theorem xv252 : xVm xY xB xP 252 xm252 := xckM_ok (hc := 866) (by decide +kernel) (xck_cut (a := 0) (n := 40) (fun q hq => xckL_ok xw252_0 q hq) (xck_cut (a := 40) (n := 40) (fun q hq => xckL_ok xw252_40 q hq) (xck_end (by decide +kernel))))
theorem xw253_0 : xckP xY xP (xB 253) (xY 253) xm253.1 0 40 [[], [], [], [], [], [], [], [], [], [], [], [], [], [], [], [], [], [1885], [], [], [], [], [], [], [], [], [], [], [], [], [], [], [], [], [], [], [], [], [], []] = true := by decide +kernel
theorem xw253_40 : xckP xY xP (xB 253) (xY 253) xm253.1 40 40 [[], [], [], [], [], [], [], [], [], [], [], [], [], []] = true := by decide +kernel
theorem xv253 : xVm xY xB xP 253 xm253 := xckM_ok (hc := 1884) (by decide +kernel) (xck_cut (a := 0) (n := 40) (fun q hq => xckL_ok xw253_0 q hq) (xck_cut (a := 40) (n := 40) (fun q hq => xckL_ok xw253_40 q hq) (xck_end (by decide +kernel))))
theorem xw254_0 : xckP xY xP (xB 254) (xY 254) xm254.1 0 40 [[], [], [451, 452, 59], []] = true := by decide +kernel
theorem xv254 : xVm xY xB xP 254 xm254 := xckM_ok (hc := 450) (by decide +kernel) (xck_cut (a := 0) (n := 40) (fun q hq => xckL_ok xw254_0 q hq) (xck_end (by decide +kernel)))
theorem xw255_0 : xckP xY xP (xB 255) (xY 255) xm255.1 0 40 [[], [454, 88, 89], [455], [], [], [], [478], [464], [], [], [465], [], [], [], [464], [], [], [465], []] = true := by decide +kernel
theorem xv255 : xVm xY xB xP 255 xm255 := xckM_ok (hc := 453) (by decide +kernel) (xck_cut (a := 0) (n := 40) (fun q hq => xckL_ok xw255_0 q hq) (xck_end (by decide +kernel)))
theorem xw256_0 : xckP xY xP (xB 256) (xY 256) xm256.1 0 40 [[], [], [902, 2090, 477, 903, 59], [], [], []] = true := by decide +kernel
theorem xv256 : xVm xY xB xP 256 xm256 := xckM_ok (hc := 901) (by decide +kernel) (xck_cut (a := 0) (n := 40) (fun q hq => xckL_ok xw256_0 q hq) (xck_end (by decide +kernel)))
theorem xw257_0 : xckP xY xP (xB 257) (xY 257) xm257.1 0 40 [[], [], [], [905, 2091, 907, 59, 2124], [], [], [971, 972, 973, 61], [], [], [], [468], [], [], [909, 2092, 911, 59, 2125], [], [], [468], [], [980, 2094, 982, 59, 2127], [], [], [468], [], [], [468], [], []] = true := by decide +kernel
theorem xv257 : xVm xY xB xP 257 xm257 := xckM_ok (hc := 904) (by decide +kernel) (xck_cut (a := 0) (n := 40) (fun q hq => xckL_ok xw257_0 q hq) (xck_end (by decide +kernel)))
theorem xw258_0 : xckP xY xP (xB 258) (xY 258) xm258.1 0 40 [[], [], [468], [], [], [909, 2092, 911, 59, 2125], [], [468], [], [], [464], [], [], [940, 942, 941, 59, 943], [], [], [], [], [], [], [], [], [], [], [], [], [], [], [], [], [], [], [], [], [], [], [], [], [], []] = true := by decide +kernel
theorem xw258_40 : xckP xY xP (xB 258) (xY 258) xm258.1 40 40 [[], [], [], [], [], [468], [], []] = true := by decide +kernel
theorem xv258 : xVm xY xB xP 258 xm258 := xckM_ok (hc := 908) (by decide +kernel) (xck_cut (a := 0) (n := 40) (fun q hq => xckL_ok xw258_0 q hq) (xck_cut (a := 40) (n := 40) (fun q hq => xckL_ok xw258_40 q hq) (xck_end (by decide +kernel))))
theorem xw259_0 : xckP xY xP (xB 259) (xY 259) xm259.1 0 40 [[], [464], [], [], [465], [], [], [], [], [], [], [], [], [464], [], [], [913, 2093, 915, 59, 2126], [], [465], [], [926, 927, 77], [464], []] = true := by decide +kernel
theorem xv259 : xVm xY xB xP 259 xm259 := xckM_ok (hc := 912) (by decide +kernel) (xck_cut (a := 0) (n := 40) (fun q hq => xckL_ok xw259_0 q hq) (xck_end (by decide +kernel)))
theorem xw260_0 : xckP xY xP (xB 260) (xY 260) xm260.1 0 40 [[], [464], [], [], [], [], [465], [], [], [], [], [], [], [], [], [], [], [], [465], [], [], [917, 918, 76], [], [], [925], [], [], [], [], [465], [], []] = true := by decide +kernel
theorem xv260 : xVm xY xB xP 260 xm260 := xckM_ok (hc := 916) (by decide +kernel) (xck_cut (a := 0) (n := 40) (fun q hq => xckL_ok xw260_0 q hq) (xck_end (by decide +kernel)))
theorem xw261_0 : xckP xY xP (xB 261) (xY 261) xm261.1 0 40 [[], [], [], [920, 818, 72], [], [], [], [], [], [], [921], [], [], [], [], [], [922, 923, 76], []] = true := by decide +kernel
theorem xv261 : xVm xY xB xP 261 xm261 := xckM_ok (hc := 919) (by decide +kernel) (xck_cut (a := 0) (n := 40) (fun q hq => xckL_ok xw261_0 q hq) (xck_end (by decide +kernel)))
theorem xw262_0 : xckP xY xP (xB 262) (xY 262) xm262.1 0 40 [[], [], [], [], [], [], [], [], [], [], [], [921], [], [921], [], [], []] = true := by decide +kernel
theorem xv262 : xVm xY xB xP 262 xm262 := xckM_ok (hc := 924) (by decide +kernel) (xck_cut (a := 0) (n := 40) (fun q hq => xckL_ok xw262_0 q hq) (xck_end (by decide +kernel)))
theorem xw263_0 : xckP xY xP (xB 263) (xY 263) xm263.1 0 40 [[], [], [], [], [], [929, 930, 931, 932, 933], [935], [], [], [478], [], [], [], [], [], [], [], [], [936, 937, 72], [939, 715, 714, 70], [], []] = true := by decide +kernel
theorem xv263 : xVm xY xB xP 263 xm263 := xckM_ok (hc := 928) (by decide +kernel) (xck_cut (a := 0) (n := 40) (fun q hq => xckL_ok xw263_0 q hq) (xck_end (by decide +kernel)))
theorem xw264_0 : xckP xY xP (xB 264) (xY 264) xm264.1 0 40 [[455], [], [], [465], [], [], [], [], []] = true := by decide +kernel
theorem xv264 : xVm xY xB xP 264 xm264 := xckM_ok (hc := 944) (by decide +kernel) (xck_cut (a := 0) (n := 40) (fun q hq => xckL_ok xw264_0 q hq) (xck_end (by decide +kernel)))
theorem xw265_0 : xckP xY xP (xB 265) (xY 265) xm265.1 0 40 [[], [], [], [957], [959, 960, 78], [], []] = true := by decide +kernel
theorem xv265 : xVm xY xB xP 265 xm265 := xckM_ok (hc := 956) (by decide +kernel) (xck_cut (a := 0) (n := 40) (fun q hq => xckL_ok xw265_0 q hq) (xck_end (by decide +kernel)))
theorem xw266_0 : xckP xY xP (xB 266) (xY 266) xm266.1 0 40 [[], [], [], [], [], [], [], [], [], [], [], [], [], []] = true := by decide +kernel
theorem xv266 : xVm xY xB xP 266 xm266 := xckM_ok (hc := 961) (by decide +kernel) (xck_cut (a := 0) (n := 40) (fun q hq => xckL_ok xw266_0 q hq) (xck_end (by decide +kernel)))
theorem xw267_0 : xckP xY xP (xB 267) (xY 267) xm267.1 0 40 [[], [1064], [], [], [975, 976, 977, 61], [], []] = true := by decide +kernel
theorem xv267 : xVm xY xB xP 267 xm267 := xckM_ok (hc := 974) (by decide +kernel) (xck_cut (a := 0) (n := 40) (fun q hq => xckL_ok xw267_0 q hq) (xck_end (by decide +kernel)))
theorem xw268_0 : xckP xY xP (xB 268) (xY 268) xm268.1 0 40 [[979], [], [], [1065], [], [], []] = true := by decide +kernel
theorem xv268 : xVm xY xB xP 268 xm268 := xckM_ok (hc := 978) (by decide +kernel) (xck_cut (a := 0) (n := 40) (fun q hq => xckL_ok xw268_0 q hq) (xck_end (by decide +kernel)))
theorem xw269_0 : xckP xY xP (xB 269) (xY 269) xm269.1 0 40 [[], [], [984, 2095, 986, 59, 2128], [], [], [464], [], [], [465], [1008, 1009, 1010, 61], []] = true := by decide +kernel
theorem xv269 : xVm xY xB xP 269 xm269 := xckM_ok (hc := 983) (by decide +kernel) (xck_cut (a := 0) (n := 40) (fun q hq => xckL_ok xw269_0 q hq) (xck_end (by decide +kernel)))
theorem xw270_0 : xckP xY xP (xB 270) (xY 270) xm270.1 0 40 [[455], [], [], [465], [], [988, 976, 977, 61], [], [], [989, 2096, 991, 59, 2129], []] = true := by decide +kernel
theorem xv270 : xVm xY xB xP 270 xm270 := xckM_ok (hc := 987) (by decide +kernel) (xck_cut (a := 0) (n := 40) (fun q hq => xckL_ok xw270_0 q hq) (xck_end (by decide +kernel)))
theorem xw271_0 : xckP xY xP (xB 271) (xY 271) xm271.1 0 40 [[], [940, 942, 941, 59, 943], [], [], [], [464], [], [], [], [464], [], [], [], [], [468], [993, 994, 79], [], [], [464], [], [], [465], []] = true := by decide +kernel
theorem xv271 : xVm xY xB xP 271 xm271 := xckM_ok (hc := 992) (by decide +kernel) (xck_cut (a := 0) (n := 40) (fun q hq => xckL_ok xw271_0 q hq) (xck_end (by decide +kernel)))
theorem xw272_0 : xckP xY xP (xB 272) (xY 272) xm272.1 0 40 [[], [], [], [], [], []] = true := by decide +kernel
theorem xv272 : xVm xY xB xP 272 xm272 := xckM_ok (hc := 995) (by decide +kernel) (xck_cut (a := 0) (n := 40) (fun q hq => xckL_ok xw272_0 q hq) (xck_end (by decide +kernel)))
theorem xw273_0 : xckP xY xP (xB 273) (xY 273) xm273.1 0 40 [[], [], [], [957], [1005, 1006, 78], []] = true := by decide +kernel
theorem xv273 : xVm xY xB xP 273 xm273 := xckM_ok (hc := 1004) (by decide +kernel) (xck_cut (a := 0) (n := 40) (fun q hq => xckL_ok xw273_0 q hq) (xck_end (by decide +kernel)))
theorem xw274_0 : xckP xY xP (xB 274) (xY 274) xm274.1 0 40 [[], [], [], [], [], [], [], [], [], [], [], [], [], [], [], [], []] = true := by decide +kernel
theorem xv274 : xVm xY xB xP 274 xm274 := xckM_ok (hc := 1007) (by decide +kernel) (xck_cut (a := 0) (n := 40) (fun q hq => xckL_ok xw274_0 q hq) (xck_end (by decide +kernel)))
theorem xw275_0 : xckP xY xP (xB 275) (xY 275) xm275.1 0 40 [[], [975, 976, 977, 61], [], [], [], [1064], [], [], [], [], [], [], [1064], [], [1012, 715, 714, 70], [], [], [1064], [], [], [], [], [1064], [], [1013, 994, 79], []] = true := by decide +kernel
theorem xv275 : xVm xY xB xP 275 xm275 := xckM_ok (hc := 1011) (by decide +kernel) (xck_cut (a := 0) (n := 40) (fun q hq => xckL_ok xw275_0 q hq) (xck_end (by decide +kernel)))
theorem xw276_0 : xckP xY xP (xB 276) (xY 276) xm276.1 0 40 [[1019, 1020, 61], [], [], [1021, 1022, 61], []] = true := by decide +kernel
theorem xv276 : xVm xY xB xP 276 xm276 := xckM_ok (hc := 1018) (by decide +kernel) (xck_cut (a := 0) (n := 40) (fun q hq => xckL_ok xw276_0 q hq) (xck_end (by decide +kernel)))
theorem xw277_0 : xckP xY xP (xB 277) (xY 277) xm277.1 0 40 [[], [], [], [1024, 1025, 61], []] = true := by decide +kernel
theorem xv277 : xVm xY xB xP 277 xm277 := xckM_ok (hc := 1023) (by decide +kernel) (xck_cut (a := 0) (n := 40) (fun q hq => xckL_ok xw277_0 q hq) (xck_end (by decide +kernel)))
theorem xw278_0 : xckP xY xP (xB 278) (xY 278) xm278.1 0 40 [[], [1027, 88, 89], [], [1028, 1030, 1029, 59, 1031], [], [], [1033, 1035, 1034, 1037, 60, 1040, 1036], [], [], [1041, 942, 941, 59, 943], [], [], [], [1065], [], [], [], [], [1042, 1043, 77], [1064], [], [979], [], [], [467], [], [], [], [], [], [1064], [], [], [1064], [], [1065], [], [], [], [1065]] = true := by decide +kernel
theorem xw278_40 : xckP xY xP (xB 278) (xY 278) xm278.1 40 40 [[], [], [], [], [], [], [1042, 1043, 77], [1064], []] = true := by decide +kernel
theorem xv278 : xVm xY xB xP 278 xm278 := xckM_ok (hc := 1026) (by decide +kernel) (xck_cut (a := 0) (n := 40) (fun q hq => xckL_ok xw278_0 q hq) (xck_cut (a := 40) (n := 40) (fun q hq => xckL_ok xw278_40 q hq) (xck_end (by decide +kernel))))
theorem xw279_0 : xckP xY xP (xB 279) (xY 279) xm279.1 0 40 [[], [464], []] = true := by decide +kernel
theorem xv279 : xVm xY xB xP 279 xm279 := xckM_ok (hc := 1032) (by decide +kernel) (xck_cut (a := 0) (n := 40) (fun q hq => xckL_ok xw279_0 q hq) (xck_end (by decide +kernel)))
theorem xw280_0 : xckP xY xP (xB 280) (xY 280) xm280.1 0 40 [[], [1039, 1035, 477, 1034, 59], []] = true := by decide +kernel
theorem xv280 : xVm xY xB xP 280 xm280 := xckM_ok (hc := 1038) (by decide +kernel) (xck_cut (a := 0) (n := 40) (fun q hq => xckL_ok xw280_0 q hq) (xck_end (by decide +kernel)))
theorem xw281_0 : xckP xY xP (xB 281) (xY 281) xm281.1 0 40 [[], [468], []] = true := by decide +kernel
theorem xv281 : xVm xY xB xP 281 xm281 := xckM_ok (hc := 1040) (by decide +kernel) (xck_cut (a := 0) (n := 40) (fun q hq => xckL_ok xw281_0 q hq) (xck_end (by decide +kernel)))
theorem xw282_0 : xckP xY xP (xB 282) (xY 282) xm282.1 0 40 [[], [], [], [], [], [], [], [], [], [1045, 1046, 77], [], [], [929, 930, 931, 932, 933], [935], []] = true := by decide +kernel
theorem xv282 : xVm xY xB xP 282 xm282 := xckM_ok (hc := 1044) (by decide +kernel) (xck_cut (a := 0) (n := 40) (fun q hq => xckL_ok xw282_0 q hq) (xck_end (by decide +kernel)))
theorem xw283_0 : xckP xY xP (xB 283) (xY 283) xm283.1 0 40 [[], [], [1048, 1049, 77], [], [], [], [], [], [478], [], [], [], [], [], [], [], [], [], [], [936, 937, 72], [939, 715, 714, 70], [], []] = true := by decide +kernel
theorem xv283 : xVm xY xB xP 283 xm283 := xckM_ok (hc := 1047) (by decide +kernel) (xck_cut (a := 0) (n := 40) (fun q hq => xckL_ok xw283_0 q hq) (xck_end (by decide +kernel)))
theorem xw284_0 : xckP xY xP (xB 284) (xY 284) xm284.1 0 40 [[], [], [], [], [], [], [], []] = true := by decide +kernel
theorem xv284 : xVm xY xB xP 284 xm284 := xckM_ok (hc := 1050) (by decide +kernel) (xck_cut (a := 0) (n := 40) (fun q hq => xckL_ok xw284_0 q hq) (xck_end (by decide +kernel)))
theorem xw285_0 : xckP xY xP (xB 285) (xY 285) xm285.1 0 40 [[], [], [1080, 2097, 477, 1081, 59], [], [], []] = true := by decide +kernel
theorem xv285 : xVm xY xB xP 285 xm285 := xckM_ok (hc := 1079) (by decide +kernel) (xck_cut (a := 0) (n := 40) (fun q hq => xckL_ok xw285_0 q hq) (xck_end (by decide +kernel)))
theorem xw286_0 : xckP xY xP (xB 286) (xY 286) xm286.1 0 40 [[], [468], [], [], [], [1083, 1084, 75], [], [], [], [], [909, 2092, 911, 59, 2125], [], [940, 942, 941, 59, 943], [], [], [], [], [464], [1086, 1087, 75], [], [], [], [], [], [], [464], [], [], [], [468], [], []] = true := by decide +kernel
theorem xv286 : xVm xY xB xP 286 xm286 := xckM_ok (hc := 1082) (by decide +kernel) (xck_cut (a := 0) (n := 40) (fun q hq => xckL_ok xw286_0 q hq) (xck_end (by decide +kernel)))
theorem xw287_0 : xckP xY xP (xB 287) (xY 287) xm287.1 0 40 [[], [], [], [], [], [], [], [], [], [], [], [], [], [], [], [], [], [], [], [], [], [], [], [], [], [], [], [], [], [], [], [], []] = true := by decide +kernel
theorem xv287 : xVm xY xB xP 287 xm287 := xckM_ok (hc := 1085) (by decide +kernel) (xck_cut (a := 0) (n := 40) (fun q hq => xckL_ok xw287_0 q hq) (xck_end (by decide +kernel)))
theorem xw288_0 : xckP xY xP (xB 288) (xY 288) xm288.1 0 40 [[], [], [], [], [], [], [], [], [], [], [], [], [], [], [], [], [], [], [], [], [], [], [], [], [], [], [], [], [], [], [], [1089], [], [], [], [], [], [], [1091], []] = true := by decide +kernel
theorem xw288_40 : xckP xY xP (xB 288) (xY 288) xm288.1 40 40 [[], [], [], [], [], [], [1089], [], [], [], [], [], [], [], [], [], [], [1091], [], [], [], [], [], [], [], [], [], [], [], [], []] = true := by decide +kernel
theorem xv288 : xVm xY xB xP 288 xm288 := xckM_ok (hc := 1088) (by decide +kernel) (xck_cut (a := 0) (n := 40) (fun q hq => xckL_ok xw288_0 q hq) (xck_cut (a := 40) (n := 40) (fun q hq => xckL_ok xw288_40 q hq) (xck_end (by decide +kernel))))
theorem xw289_0 : xckP xY xP (xB 289) (xY 289) xm289.1 0 40 [[], [1122, 1123, 1124, 61], [], [], [1064], [], [1126, 1127, 79], [], [], [1064], [], []] = true := by decide +kernel
theorem xv289 : xVm xY xB xP 289 xm289 := xckM_ok (hc := 1121) (by decide +kernel) (xck_cut (a := 0) (n := 40) (fun q hq => xckL_ok xw289_0 q hq) (xck_end (by decide +kernel)))
theorem xw290_0 : xckP xY xP (xB 290) (xY 290) xm290.1 0 40 [[979], [], [], [1065], [], [], [], [], []] = true := by decide +kernel
theorem xv290 : xVm xY xB xP 290 xm290 := xckM_ok (hc := 1125) (by decide +kernel) (xck_cut (a := 0) (n := 40) (fun q hq => xckL_ok xw290_0 q hq) (xck_end (by decide +kernel)))
theorem xw291_0 : xckP xY xP (xB 291) (xY 291) xm291.1 0 40 [[], [], [], [1129, 1130, 61], [], [], [], [], [], [], []] = true := by decide +kernel
theorem xv291 : xVm xY xB xP 291 xm291 := xckM_ok (hc := 1128) (by decide +kernel) (xck_cut (a := 0) (n := 40) (fun q hq => xckL_ok xw291_0 q hq) (xck_end (by decide +kernel)))
theorem xw292_0 : xckP xY xP (xB 292) (xY 292) xm292.1 0 40 [[], [], [957], [1132, 1133, 78], [], []] = true := by decide +kernel
theorem xv292 : xVm xY xB xP 292 xm292 := xckM_ok (hc := 1131) (by decide +kernel) (xck_cut (a := 0) (n := 40) (fun q hq => xckL_ok xw292_0 q hq) (xck_end (by decide +kernel)))
theorem xw293_0 : xckP xY xP (xB 293) (xY 293) xm293.1 0 40 [[], [], [], [], [], [], [], [], [], []] = true := by decide +kernel
theorem xv293 : xVm xY xB xP 293 xm293 := xckM_ok (hc := 1134) (by decide +kernel) (xck_cut (a := 0) (n := 40) (fun q hq => xckL_ok xw293_0 q hq) (xck_end (by decide +kernel)))
theorem xw294_0 : xckP xY xP (xB 294) (xY 294) xm294.1 0 40 [[], [], [1262, 2098, 477, 1263, 59], []] = true := by decide +kernel
theorem xv294 : xVm xY xB xP 294 xm294 := xckM_ok (hc := 1261) (by decide +kernel) (xck_cut (a := 0) (n := 40) (fun q hq => xckL_ok xw294_0 q hq) (xck_end (by decide +kernel)))
theorem xw295_0 : xckP xY xP (xB 295) (xY 295) xm295.1 0 40 [[], [], [], [], [], [], [909, 2092, 911, 59, 2125], [], [468], [], [], [], [940, 942, 941, 59, 943], [], [], [464], [], [468], [], [1265, 1266, 79], [], [], [464], [], [468], [], [], [], [468], [], [], [], [], [466], [], [], [468], []] = true := by decide +kernel
theorem xv295 : xVm xY xB xP 295 xm295 := xckM_ok (hc := 1264) (by decide +kernel) (xck_cut (a := 0) (n := 40) (fun q hq => xckL_ok xw295_0 q hq) (xck_end (by decide +kernel)))
theorem xw296_0 : xckP xY xP (xB 296) (xY 296) xm296.1 0 40 [[], [], [], [], [1268, 1269, 77], []] = true := by decide +kernel
theorem xv296 : xVm xY xB xP 296 xm296 := xckM_ok (hc := 1267) (by decide +kernel) (xck_cut (a := 0) (n := 40) (fun q hq => xckL_ok xw296_0 q hq) (xck_end (by decide +kernel)))
theorem xw297_0 : xckP xY xP (xB 297) (xY 297) xm297.1 0 40 [[], [], [], [], [1271, 1272, 77], [], [], [], [], [], [], [], [], [], [], [], []] = true := by decide +kernel
theorem xv297 : xVm xY xB xP 297 xm297 := xckM_ok (hc := 1270) (by decide +kernel) (xck_cut (a := 0) (n := 40) (fun q hq => xckL_ok xw297_0 q hq) (xck_end (by decide +kernel)))
theorem xw298_0 : xckP xY xP (xB 298) (xY 298) xm298.1 0 40 [[], [], [], [], [], [], [], [], [], [], [], [], [], [], [], [], []] = true := by decide +kernel
theorem xv298 : xVm xY xB xP 298 xm298 := xckM_ok (hc := 1273) (by decide +kernel) (xck_cut (a := 0) (n := 40) (fun q hq => xckL_ok xw298_0 q hq) (xck_end (by decide +kernel)))
theorem xw299_0 : xckP xY xP (xB 299) (xY 299) xm299.1 0 40 [[], [], [1290, 2099, 477, 1291, 59], [], [], []] = true := by decide +kernel
theorem xv299 : xVm xY xB xP 299 xm299 := xckM_ok (hc := 1289) (by decide +kernel) (xck_cut (a := 0) (n := 40) (fun q hq => xckL_ok xw299_0 q hq) (xck_end (by decide +kernel)))
theorem xw300_0 : xckP xY xP (xB 300) (xY 300) xm300.1 0 40 [[], [], [468], [], [], [909, 2092, 911, 59, 2125], [], [940, 942, 941, 59, 943], [], [], [1293, 1294, 79], [], [], [464], [], [], [468], [], [], [], [468], [], [], [], [], [], [940, 942, 941, 59, 943], [], [], [989, 2096, 991, 59, 2129], [], [464], [], [], [468], [], [], [], [468], []] = true := by decide +kernel
theorem xw300_40 : xckP xY xP (xB 300) (xY 300) xm300.1 40 40 [[], []] = true := by decide +kernel
theorem xv300 : xVm xY xB xP 300 xm300 := xckM_ok (hc := 1292) (by decide +kernel) (xck_cut (a := 0) (n := 40) (fun q hq => xckL_ok xw300_0 q hq) (xck_cut (a := 40) (n := 40) (fun q hq => xckL_ok xw300_40 q hq) (xck_end (by decide +kernel))))

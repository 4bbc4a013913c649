noncomputable def s2J6_bitCount_0f7a4_0 : zSem := zo_splL 0 [(.negSucc 2147483647, .negSucc 0), (.ofNat 0, .ofNat 0), (.ofNat 1, .ofNat 1), (.ofNat 2, .ofNat 2), (.ofNat 3, .ofNat 3), (.ofNat 4, .ofNat 4), (.ofNat 5, .ofNat 5), (.ofNat 6, .ofNat 6), (.ofNat 7, .ofNat 7), (.ofNat 8, .ofNat 8), (.ofNat 9, .ofNat 9), (.ofNat 10, .ofNat 10), (.ofNat 11, .ofNat 11), (.ofNat 12, .ofNat 12), (.ofNat 13, .ofNat 13), (.ofNat 14, .ofNat 14), (.ofNat 15, .ofNat 15), (.ofNat 16, .ofNat 16), (.ofNat 17, .ofNat 17), (.ofNat 18, .ofNat 18), (.ofNat 19, .ofNat 19), (.ofNat 20, .ofNat 20), (.ofNat 21, .ofNat 21), (.ofNat 22, .ofNat 22), (.ofNat 23, .ofNat 23), (.ofNat 24, .ofNat 24), (.ofNat 25, .ofNat 25), (.ofNat 26, .ofNat 26), (.ofNat 27, .ofNat 27), (.ofNat 28, .ofNat 28), (.ofNat 29, .ofNat 29), (.ofNat 30, .ofNat 30), (.ofNat 31, .ofNat 31), (.ofNat 32, .ofNat 32), (.ofNat 33, .ofNat 33), (.ofNat 34, .ofNat 34), (.ofNat 35, .ofNat 35), (.ofNat 36, .ofNat 36), (.ofNat 37, .ofNat 37), (.ofNat 38, .ofNat 38), (.ofNat 39, .ofNat 39), (.ofNat 40, .ofNat 40), (.ofNat 41, .ofNat 41), (.ofNat 42, .ofNat 42), (.ofNat 43, .ofNat 43), (.ofNat 44, .ofNat 44), (.ofNat 45, .ofNat 45), (.ofNat 46, .ofNat 46), (.ofNat 47, .ofNat 47), (.ofNat 48, .ofNat 48), (.ofNat 49, .ofNat 49), (.ofNat 50, .ofNat 50), (.ofNat 51, .ofNat 51), (.ofNat 52, .ofNat 52), (.ofNat 53, .ofNat 53), (.ofNat 54, .ofNat 54), (.ofNat 55, .ofNat 55), (.ofNat 56, .ofNat 56), (.ofNat 57, .ofNat 57), (.ofNat 58, .ofNat 58), (.ofNat 59, .ofNat 59), (.ofNat 60, .ofNat 60), (.ofNat 61, .ofNat 61), (.ofNat 62, .ofNat 62), (.ofNat 63, .ofNat 63), (.ofNat 64, .ofNat 64), (.ofNat 65, .ofNat 65), (.ofNat 66, .ofNat 66), (.ofNat 67, .ofNat 67), (.ofNat 68, .ofNat 68), (.ofNat 69, .ofNat 69), (.ofNat 70, .ofNat 70), (.ofNat 71, .ofNat 71), (.ofNat 72, .ofNat 72), (.ofNat 73, .ofNat 73), (.ofNat 74, .ofNat 74), (.ofNat 75, .ofNat 75), (.ofNat 76, .ofNat 76), (.ofNat 77, .ofNat 77), (.ofNat 78, .ofNat 78), (.ofNat 79, .ofNat 79), (.ofNat 80, .ofNat 80), (.ofNat 81, .ofNat 81), (.ofNat 82, .ofNat 82), (.ofNat 83, .ofNat 83), (.ofNat 84, .ofNat 84), (.ofNat 85, .ofNat 85), (.ofNat 86, .ofNat 86), (.ofNat 87, .ofNat 87), (.ofNat 88, .ofNat 88), (.ofNat 89, .ofNat 89), (.ofNat 90, .ofNat 90), (.ofNat 91, .ofNat 91), (.ofNat 92, .ofNat 92), (.ofNat 93, .ofNat 93), (.ofNat 94, .ofNat 94), (.ofNat 95, .ofNat 95), (.ofNat 96, .ofNat 96), (.ofNat 97, .ofNat 97), (.ofNat 98, .ofNat 98), (.ofNat 99, .ofNat 99), (.ofNat 100, .ofNat 100), (.ofNat 101, .ofNat 101), (.ofNat 102, .ofNat 102), (.ofNat 103, .ofNat 103), (.ofNat 104, .ofNat 104), (.ofNat 105, .ofNat 105), (.ofNat 106, .ofNat 106), (.ofNat 107, .ofNat 107), (.ofNat 108, .ofNat 108), (.ofNat 109, .ofNat 109), (.ofNat 110, .ofNat 110), (.ofNat 111, .ofNat 111), (.ofNat 112, .ofNat 112), (.ofNat 113, .ofNat 113), (.ofNat 114, .ofNat 114), (.ofNat 115, .ofNat 115), (.ofNat 116, .ofNat 116), (.ofNat 117, .ofNat 117), (.ofNat 118, .ofNat 118), (.ofNat 119, .ofNat 119), (.ofNat 120, .ofNat 120), (.ofNat 121, .ofNat 121), (.ofNat 122, .ofNat 122), (.ofNat 123, .ofNat 123), (.ofNat 124, .ofNat 124), (.ofNat 125, .ofNat 125), (.ofNat 126, .ofNat 126), (.ofNat 127, .ofNat 127), (.ofNat 128, .ofNat 128), (.ofNat 129, .ofNat 129), (.ofNat 130, .ofNat 130), (.ofNat 131, .ofNat 131), (.ofNat 132, .ofNat 132), (.ofNat 133, .ofNat 133), (.ofNat 134, .ofNat 134), (.ofNat 135, .ofNat 135), (.ofNat 136, .ofNat 136), (.ofNat 137, .ofNat 137), (.ofNat 138, .ofNat 138), (.ofNat 139, .ofNat 139), (.ofNat 140, .ofNat 140), (.ofNat 141, .ofNat 141), (.ofNat 142, .ofNat 142), (.ofNat 143, .ofNat 143), (.ofNat 144, .ofNat 144), (.ofNat 145, .ofNat 145), (.ofNat 146, .ofNat 146), (.ofNat 147, .ofNat 147), (.ofNat 148, .ofNat 148), (.ofNat 149, .ofNat 149), (.ofNat 150, .ofNat 150), (.ofNat 151, .ofNat 151), (.ofNat 152, .ofNat 152), (.ofNat 153, .ofNat 153), (.ofNat 154, .ofNat 154), (.ofNat 155, .ofNat 155), (.ofNat 156, .ofNat 156), (.ofNat 157, .ofNat 157), (.ofNat 158, .ofNat 158), (.ofNat 159, .ofNat 159), (.ofNat 160, .ofNat 160), (.ofNat 161, .ofNat 161), (.ofNat 162, .ofNat 162), (.ofNat 163, .ofNat 163), (.ofNat 164, .ofNat 164), (.ofNat 165, .ofNat 165), (.ofNat 166, .ofNat 166), (.ofNat 167, .ofNat 167), (.ofNat 168, .ofNat 168), (.ofNat 169, .ofNat 169), (.ofNat 170, .ofNat 170), (.ofNat 171, .ofNat 171), (.ofNat 172, .ofNat 172), (.ofNat 173, .ofNat 173), (.ofNat 174, .ofNat 174), (.ofNat 175, .ofNat 175), (.ofNat 176, .ofNat 176), (.ofNat 177, .ofNat 177), (.ofNat 178, .ofNat 178), (.ofNat 179, .ofNat 179), (.ofNat 180, .ofNat 180), (.ofNat 181, .ofNat 181), (.ofNat 182, .ofNat 182), (.ofNat 183, .ofNat 183), (.ofNat 184, .ofNat 184), (.ofNat 185, .ofNat 185), (.ofNat 186, .ofNat 186), (.ofNat 187, .ofNat 187), (.ofNat 188, .ofNat 188), (.ofNat 189, .ofNat 189), (.ofNat 190, .ofNat 190), (.ofNat 191, .ofNat 191), (.ofNat 192, .ofNat 192), (.ofNat 193, .ofNat 193), (.ofNat 194, .ofNat 194), (.ofNat 195, .ofNat 195), (.ofNat 196, .ofNat 196), (.ofNat 197, .ofNat 197), (.ofNat 198, .ofNat 198), (.ofNat 199, .ofNat 199), (.ofNat 200, .ofNat 200), (.ofNat 201, .ofNat 201), (.ofNat 202, .ofNat 202), (.ofNat 203, .ofNat 203), (.ofNat 204, .ofNat 204), (.ofNat 205, .ofNat 205), (.ofNat 206, .ofNat 206), (.ofNat 207, .ofNat 207), (.ofNat 208, .ofNat 208), (.ofNat 209, .ofNat 209), (.ofNat 210, .ofNat 210), (.ofNat 211, .ofNat 211), (.ofNat 212, .ofNat 212), (.ofNat 213, .ofNat 213), (.ofNat 214, .ofNat 214), (.ofNat 215, .ofNat 215), (.ofNat 216, .ofNat 216), (.ofNat 217, .ofNat 217), (.ofNat 218, .ofNat 218), (.ofNat 219, .ofNat 219), (.ofNat 220, .ofNat 220), (.ofNat 221, .ofNat 221), (.ofNat 222, .ofNat 222), (.ofNat 223, .ofNat 223), (.ofNat 224, .ofNat 224), (.ofNat 225, .ofNat 225), (.ofNat 226, .ofNat 226), (.ofNat 227, .ofNat 227), (.ofNat 228, .ofNat 228), (.ofNat 229, .ofNat 229), (.ofNat 230, .ofNat 230), (.ofNat 231, .ofNat 231), (.ofNat 232, .ofNat 232), (.ofNat 233, .ofNat 233), (.ofNat 234, .ofNat 234), (.ofNat 235, .ofNat 235), (.ofNat 236, .ofNat 236), (.ofNat 237, .ofNat 237), (.ofNat 238, .ofNat 238), (.ofNat 239, .ofNat 239), (.ofNat 240, .ofNat 240), (.ofNat 241, .ofNat 241), (.ofNat 242, .ofNat 242), (.ofNat 243, .ofNat 243), (.ofNat 244, .ofNat 244), (.ofNat 245, .ofNat 245), (.ofNat 246, .ofNat 246), (.ofNat 247, .ofNat 247), (.ofNat 248, .ofNat 248), (.ofNat 249, .ofNat 249), (.ofNat 250, .ofNat 250), (.ofNat 251, .ofNat 251), (.ofNat 252, .ofNat 252), (.ofNat 253, .ofNat 253), (.ofNat 254, .ofNat 254), (.ofNat 255, .ofNat 255), (.ofNat 256, .ofNat 2147483647)] (zo_loadI 1 0)
noncomputable def k2J6_bitCount_0f7a4 : zCode := zrset kJ6_bitCount_0f7a4 0 (some s2J6_bitCount_0f7a4_0)
noncomputable def m2J6_bitCount_0f7a4 : zM := (yJ6_bitCount_0f7a4, cJ6_bitCount_0f7a4, 1, (some .int), 0, 0, k2J6_bitCount_0f7a4)
set_option maxRecDepth 100000 in
set_option maxHeartbeats 4000000 in
theorem ok2J6_bitCount_0f7a4 {l : Launch} {D : va_G} {tys : List (ClassId × FieldType)} {o : zO} {z : Nat} (E : zEnv tys) : zCodeOk l D vwCl tys o z (zXX o z) zTs zprog m2J6_bitCount_0f7a4 :=
  (zCode_set (okJ6_bitCount_0f7a4 E) (pc := 0) s2J6_bitCount_0f7a4_0 rfl (fun _ _ _ _ _ _ _ _ _ _ _ C h => zk_splL (h)))
noncomputable def s2X0_isAble_0 : zSem := zo_splL 2 [(.negSucc 2147483647, .negSucc 0), (.ofNat 0, .ofNat 7), (.ofNat 8, .ofNat 2147483647)] (zo_loadA 1 0)
noncomputable def k2X0_isAble : zCode := zrset kX0_isAble 0 (some s2X0_isAble_0)
noncomputable def m2X0_isAble : zM := (yX0_isAble, cX0_isAble, 4, (some .boolean), 0, 0, k2X0_isAble)
set_option maxRecDepth 100000 in
set_option maxHeartbeats 4000000 in
theorem ok2X0_isAble {l : Launch} {D : va_G} {tys : List (ClassId × FieldType)} {o : zO} {z : Nat} (E : zEnv tys) : zCodeOk l D vwCl tys o z (zXX o z) zTs zprog m2X0_isAble :=
  (zCode_set (okX0_isAble E) (pc := 0) s2X0_isAble_0 rfl (fun _ _ _ _ _ _ _ _ _ _ _ C h => zk_splL (h)))
noncomputable def s2X0_pass_30 : zSem := zo_splL 3 [(.negSucc 2147483647, .negSucc 0), (.ofNat 0, .ofNat 7), (.ofNat 8, .ofNat 2147483647)] (zo_loadA 31 0)
noncomputable def k2X0_pass : zCode := zrset kX0_pass 30 (some s2X0_pass_30)
noncomputable def m2X0_pass : zM := (yX0_pass, cX0_pass, 4, none, 0, 0, k2X0_pass)
set_option maxRecDepth 100000 in
set_option maxHeartbeats 4000000 in
theorem ok2X0_pass {l : Launch} {D : va_G} {tys : List (ClassId × FieldType)} {o : zO} {z : Nat} (E : zEnv tys) : zCodeOk l D vwCl tys o z (zXX o z) zTs zprog m2X0_pass :=
  (zCode_set (okX0_pass E) (pc := 30) s2X0_pass_30 rfl (fun _ _ _ _ _ _ _ _ _ _ _ C h => zk_splL (h)))
noncomputable def s2X0_readRiders_0 : zSem := zo_splH 0 [] 6 [(.negSucc 2147483647, .negSucc 0), (.ofNat 0, .ofNat 0), (.ofNat 1, .ofNat 1), (.ofNat 2, .ofNat 2), (.ofNat 3, .ofNat 3), (.ofNat 4, .ofNat 4), (.ofNat 5, .ofNat 5), (.ofNat 6, .ofNat 6), (.ofNat 7, .ofNat 7), (.ofNat 8, .ofNat 8), (.ofNat 9, .ofNat 2147483647)] (zo_loadA 1 1)
noncomputable def s2X0_readRiders_53 : zSem := zo_splL 6 [(.negSucc 2147483647, .negSucc 1), (.negSucc 0, .negSucc 0), (.ofNat 0, .ofNat 0), (.ofNat 1, .ofNat 1), (.ofNat 2, .ofNat 2), (.ofNat 3, .ofNat 2147483647)] (zo_loadI 55 6)
noncomputable def k2X0_readRiders : zCode := zrset (zrset kX0_readRiders 0 (some s2X0_readRiders_0)) 53 (some s2X0_readRiders_53)
noncomputable def m2X0_readRiders : zM := (yX0_readRiders, cX0_readRiders, 7, (some .int), 0, 0, k2X0_readRiders)
set_option maxRecDepth 100000 in
set_option maxHeartbeats 4000000 in
theorem ok2X0_readRiders {l : Launch} {D : va_G} {tys : List (ClassId × FieldType)} {o : zO} {z : Nat} (E : zEnv tys) : zCodeOk l D vwCl tys o z (zXX o z) zTs zprog m2X0_readRiders :=
  (zCode_set (zCode_set (okX0_readRiders E) (pc := 0) s2X0_readRiders_0 rfl (fun _ _ _ _ _ _ _ _ _ _ _ C h => zk_splH (h))) (pc := 53) s2X0_readRiders_53 rfl (fun _ _ _ _ _ _ _ _ _ _ _ C h => zk_splL (h)))
noncomputable def s2X0_watch_38 : zSem := zo_splL 4 [(.negSucc 2147483647, .negSucc 0), (.ofNat 0, .ofNat 7), (.ofNat 8, .ofNat 2147483647)] (zo_loadA 39 0)
noncomputable def s2X0_watch_106 : zSem := zo_splL 2 [(.negSucc 2147483647, .negSucc 0), (.ofNat 0, .ofNat 7), (.ofNat 8, .ofNat 2147483647)] (zo_loadA 107 0)
noncomputable def k2X0_watch : zCode := zrset (zrset kX0_watch 38 (some s2X0_watch_38)) 106 (some s2X0_watch_106)
noncomputable def m2X0_watch : zM := (yX0_watch, cX0_watch, 5, none, 0, 0, k2X0_watch)
set_option maxRecDepth 100000 in
set_option maxHeartbeats 4000000 in
theorem ok2X0_watch {l : Launch} {D : va_G} {tys : List (ClassId × FieldType)} {o : zO} {z : Nat} (E : zEnv tys) : zCodeOk l D vwCl tys o z (zXX o z) zTs zprog m2X0_watch :=
  (zCode_set (zCode_set (okX0_watch E) (pc := 38) s2X0_watch_38 rfl (fun _ _ _ _ _ _ _ _ _ _ _ C h => zk_splL (h))) (pc := 106) s2X0_watch_106 rfl (fun _ _ _ _ _ _ _ _ _ _ _ C h => zk_splL (h)))
noncomputable def s2X1_add_0 : zSem := zo_splH 0 [] 1 [(.negSucc 2147483647, .negSucc 0), (.ofNat 0, .ofNat 7), (.ofNat 8, .ofNat 2147483647)] (zo_loadA 1 0)
noncomputable def k2X1_add : zCode := zrset kX1_add 0 (some s2X1_add_0)
noncomputable def m2X1_add : zM := (yX1_add, cX1_add, 3, none, 0, 0, k2X1_add)
set_option maxRecDepth 100000 in
set_option maxHeartbeats 4000000 in
theorem ok2X1_add {l : Launch} {D : va_G} {tys : List (ClassId × FieldType)} {o : zO} {z : Nat} (E : zEnv tys) : zCodeOk l D vwCl tys o z (zXX o z) zTs zprog m2X1_add :=
  (zCode_set (okX1_add E) (pc := 0) s2X1_add_0 rfl (fun _ _ _ _ _ _ _ _ _ _ _ C h => zk_splH (h)))
noncomputable def s2X2_pop_0 : zSem := zo_splH 0 [] 1 [(.negSucc 2147483647, .negSucc 0), (.ofNat 0, .ofNat 0), (.ofNat 1, .ofNat 1), (.ofNat 2, .ofNat 2), (.ofNat 3, .ofNat 3), (.ofNat 4, .ofNat 4), (.ofNat 5, .ofNat 5), (.ofNat 6, .ofNat 6), (.ofNat 7, .ofNat 7), (.ofNat 8, .ofNat 8), (.ofNat 9, .ofNat 9), (.ofNat 10, .ofNat 10), (.ofNat 11, .ofNat 11), (.ofNat 12, .ofNat 2147483647)] (zo_loadA 1 0)
noncomputable def k2X2_pop : zCode := zrset kX2_pop 0 (some s2X2_pop_0)
noncomputable def m2X2_pop : zM := (yX2_pop, cX2_pop, 2, (some .int), 0, 0, k2X2_pop)
set_option maxRecDepth 100000 in
set_option maxHeartbeats 4000000 in
theorem ok2X2_pop {l : Launch} {D : va_G} {tys : List (ClassId × FieldType)} {o : zO} {z : Nat} (E : zEnv tys) : zCodeOk l D vwCl tys o z (zXX o z) zTs zprog m2X2_pop :=
  (zCode_set (okX2_pop E) (pc := 0) s2X2_pop_0 rfl (fun _ _ _ _ _ _ _ _ _ _ _ C h => zk_splH (h)))
noncomputable def s2X2_push_0 : zSem := zo_splH 0 [] 1 [(.negSucc 2147483647, .negSucc 0), (.ofNat 0, .ofNat 0), (.ofNat 1, .ofNat 1), (.ofNat 2, .ofNat 2), (.ofNat 3, .ofNat 3), (.ofNat 4, .ofNat 4), (.ofNat 5, .ofNat 5), (.ofNat 6, .ofNat 6), (.ofNat 7, .ofNat 7), (.ofNat 8, .ofNat 8), (.ofNat 9, .ofNat 9), (.ofNat 10, .ofNat 10), (.ofNat 11, .ofNat 11), (.ofNat 12, .ofNat 2147483647)] (zo_loadA 1 0)
noncomputable def k2X2_push : zCode := zrset kX2_push 0 (some s2X2_push_0)
noncomputable def m2X2_push : zM := (yX2_push, cX2_push, 2, none, 0, 0, k2X2_push)
set_option maxRecDepth 100000 in
set_option maxHeartbeats 4000000 in
theorem ok2X2_push {l : Launch} {D : va_G} {tys : List (ClassId × FieldType)} {o : zO} {z : Nat} (E : zEnv tys) : zCodeOk l D vwCl tys o z (zXX o z) zTs zprog m2X2_push :=
  (zCode_set (okX2_push E) (pc := 0) s2X2_push_0 rfl (fun _ _ _ _ _ _ _ _ _ _ _ C h => zk_splH (h)))
noncomputable def s2X3_await_0 : zSem := zo_splH 0 [] 5 [(.negSucc 2147483647, .ofNat 39), (.ofNat 40, .ofNat 2147483647)] (zo_loadA 1 0)
noncomputable def k2X3_await : zCode := zrset kX3_await 0 (some s2X3_await_0)
noncomputable def m2X3_await : zM := (yX3_await, cX3_await, 2, none, 0, 0, k2X3_await)
set_option maxRecDepth 100000 in
set_option maxHeartbeats 4000000 in
theorem ok2X3_await {l : Launch} {D : va_G} {tys : List (ClassId × FieldType)} {o : zO} {z : Nat} (E : zEnv tys) : zCodeOk l D vwCl tys o z (zXX o z) zTs zprog m2X3_await :=
  (zCode_set (okX3_await E) (pc := 0) s2X3_await_0 rfl (fun _ _ _ _ _ _ _ _ _ _ _ C h => zk_splH (h)))
noncomputable def s2X3_binding_1 : zSem := zo_splT [(.negSucc 2147483647, .ofNat 41), (.ofNat 42, .ofNat 42), (.ofNat 43, .ofNat 43), (.ofNat 44, .ofNat 44), (.ofNat 45, .ofNat 45), (.ofNat 46, .ofNat 46), (.ofNat 47, .ofNat 47), (.ofNat 48, .ofNat 59), (.ofNat 60, .ofNat 60), (.ofNat 61, .ofNat 61), (.ofNat 62, .ofNat 62), (.ofNat 63, .ofNat 255), (.ofNat 256, .ofNat 256), (.ofNat 257, .ofNat 2147483647)] (zo_lsw [(.ofNat 42, 80), (.ofNat 43, 78), (.ofNat 45, 78), (.ofNat 47, 80), (.ofNat 60, 76), (.ofNat 61, 76), (.ofNat 62, 76), (.ofNat 256, 82)] 84)
noncomputable def k2X3_binding : zCode := zrset kX3_binding 1 (some s2X3_binding_1)
noncomputable def m2X3_binding : zM := (yX3_binding, cX3_binding, 1, (some .int), 0, 0, k2X3_binding)
set_option maxRecDepth 100000 in
set_option maxHeartbeats 4000000 in
theorem ok2X3_binding {l : Launch} {D : va_G} {tys : List (ClassId × FieldType)} {o : zO} {z : Nat} (E : zEnv tys) : zCodeOk l D vwCl tys o z (zXX o z) zTs zprog m2X3_binding :=
  (zCode_set (okX3_binding E) (pc := 1) s2X3_binding_1 rfl (fun _ _ _ _ _ _ _ _ _ _ _ C h => zk_splT h))
noncomputable def s2X3_closeBracket_0 : zSem := zo_splH 0 [] 6 [(.negSucc 2147483647, .ofNat 0), (.ofNat 1, .ofNat 2147483647)] (zo_loadA 1 0)
noncomputable def k2X3_closeBracket : zCode := zrset kX3_closeBracket 0 (some s2X3_closeBracket_0)
noncomputable def m2X3_closeBracket : zM := (yX3_closeBracket, cX3_closeBracket, 1, (some .boolean), 0, 0, k2X3_closeBracket)
set_option maxRecDepth 100000 in
set_option maxHeartbeats 4000000 in
theorem ok2X3_closeBracket {l : Launch} {D : va_G} {tys : List (ClassId × FieldType)} {o : zO} {z : Nat} (E : zEnv tys) : zCodeOk l D vwCl tys o z (zXX o z) zTs zprog m2X3_closeBracket :=
  (zCode_set (okX3_closeBracket E) (pc := 0) s2X3_closeBracket_0 rfl (fun _ _ _ _ _ _ _ _ _ _ _ C h => zk_splH (h)))
noncomputable def s2X3_emit_0 : zSem := zo_splH 0 [] 4 [(.negSucc 2147483647, .ofNat 39), (.ofNat 40, .ofNat 2147483647)] (zo_loadA 1 0)
noncomputable def k2X3_emit : zCode := zrset kX3_emit 0 (some s2X3_emit_0)
noncomputable def m2X3_emit : zM := (yX3_emit, cX3_emit, 2, none, 0, 0, k2X3_emit)
set_option maxRecDepth 100000 in
set_option maxHeartbeats 4000000 in
theorem ok2X3_emit {l : Launch} {D : va_G} {tys : List (ClassId × FieldType)} {o : zO} {z : Nat} (E : zEnv tys) : zCodeOk l D vwCl tys o z (zXX o z) zTs zprog m2X3_emit :=
  (zCode_set (okX3_emit E) (pc := 0) s2X3_emit_0 rfl (fun _ _ _ _ _ _ _ _ _ _ _ C h => zk_splH (h)))
noncomputable def s2X3_openBracket_0 : zSem := zo_splH 0 [] 6 [(.negSucc 2147483647, .ofNat 3), (.ofNat 4, .ofNat 2147483647)] (zo_loadA 1 0)
noncomputable def k2X3_openBracket : zCode := zrset kX3_openBracket 0 (some s2X3_openBracket_0)
noncomputable def m2X3_openBracket : zM := (yX3_openBracket, cX3_openBracket, 1, (some .boolean), 0, 0, k2X3_openBracket)
set_option maxRecDepth 100000 in
set_option maxHeartbeats 4000000 in
theorem ok2X3_openBracket {l : Launch} {D : va_G} {tys : List (ClassId × FieldType)} {o : zO} {z : Nat} (E : zEnv tys) : zCodeOk l D vwCl tys o z (zXX o z) zTs zprog m2X3_openBracket :=
  (zCode_set (okX3_openBracket E) (pc := 0) s2X3_openBracket_0 rfl (fun _ _ _ _ _ _ _ _ _ _ _ C h => zk_splH (h)))
noncomputable def s2X3_reckon_0 : zSem := zo_splL 2 [(.negSucc 2147483647, .negSucc 0), (.ofNat 0, .ofNat 0), (.ofNat 1, .ofNat 2147483647)] (zo_loadI 1 0)
noncomputable def s2X3_reckon_1 : zSem := zo_splT [(.negSucc 2147483647, .ofNat 41), (.ofNat 42, .ofNat 42), (.ofNat 43, .ofNat 43), (.ofNat 44, .ofNat 44), (.ofNat 45, .ofNat 45), (.ofNat 46, .ofNat 59), (.ofNat 60, .ofNat 60), (.ofNat 61, .ofNat 61), (.ofNat 62, .ofNat 62), (.ofNat 63, .ofNat 2147483647)] (zo_lsw [(.ofNat 42, 101), (.ofNat 43, 93), (.ofNat 45, 97), (.ofNat 60, 60), (.ofNat 61, 82), (.ofNat 62, 71)] 105)
noncomputable def k2X3_reckon : zCode := zrset (zrset kX3_reckon 0 (some s2X3_reckon_0)) 1 (some s2X3_reckon_1)
noncomputable def m2X3_reckon : zM := (yX3_reckon, cX3_reckon, 3, (some .int), 0, 0, k2X3_reckon)
set_option maxRecDepth 100000 in
set_option maxHeartbeats 4000000 in
theorem ok2X3_reckon {l : Launch} {D : va_G} {tys : List (ClassId × FieldType)} {o : zO} {z : Nat} (E : zEnv tys) : zCodeOk l D vwCl tys o z (zXX o z) zTs zprog m2X3_reckon :=
  (zCode_set (zCode_set (okX3_reckon E) (pc := 0) s2X3_reckon_0 rfl (fun _ _ _ _ _ _ _ _ _ _ _ C h => zk_splL (h))) (pc := 1) s2X3_reckon_1 rfl (fun _ _ _ _ _ _ _ _ _ _ _ C h => zk_splT h))
noncomputable def s2X3_reckonDownTo_0 : zSem := zo_splH 0 [] 5 [(.negSucc 2147483647, .ofNat 0), (.ofNat 1, .ofNat 2147483647)] (zo_loadA 1 0)
noncomputable def k2X3_reckonDownTo : zCode := zrset kX3_reckonDownTo 0 (some s2X3_reckonDownTo_0)
noncomputable def m2X3_reckonDownTo : zM := (yX3_reckonDownTo, cX3_reckonDownTo, 2, none, 0, 0, k2X3_reckonDownTo)
set_option maxRecDepth 100000 in
set_option maxHeartbeats 4000000 in
theorem ok2X3_reckonDownTo {l : Launch} {D : va_G} {tys : List (ClassId × FieldType)} {o : zO} {z : Nat} (E : zEnv tys) : zCodeOk l D vwCl tys o z (zXX o z) zTs zprog m2X3_reckonDownTo :=
  (zCode_set (okX3_reckonDownTo E) (pc := 0) s2X3_reckonDownTo_0 rfl (fun _ _ _ _ _ _ _ _ _ _ _ C h => zk_splH (h)))
noncomputable def s2X3_takeDigitMore_0 : zSem := zo_splH 0 [] 4 [(.negSucc 2147483647, .ofNat 0), (.ofNat 1, .ofNat 2147483647)] (zo_loadA 1 0)
noncomputable def k2X3_takeDigitMore : zCode := zrset kX3_takeDigitMore 0 (some s2X3_takeDigitMore_0)
noncomputable def m2X3_takeDigitMore : zM := (yX3_takeDigitMore, cX3_takeDigitMore, 2, (some .boolean), 0, 0, k2X3_takeDigitMore)
set_option maxRecDepth 100000 in
set_option maxHeartbeats 4000000 in
theorem ok2X3_takeDigitMore {l : Launch} {D : va_G} {tys : List (ClassId × FieldType)} {o : zO} {z : Nat} (E : zEnv tys) : zCodeOk l D vwCl tys o z (zXX o z) zTs zprog m2X3_takeDigitMore :=
  (zCode_set (okX3_takeDigitMore E) (pc := 0) s2X3_takeDigitMore_0 rfl (fun _ _ _ _ _ _ _ _ _ _ _ C h => zk_splH (h)))
noncomputable def s2X3_value_4 : zSem := zo_splL 2 [(.negSucc 2147483647, .negSucc 0), (.ofNat 0, .ofNat 0), (.ofNat 1, .ofNat 1), (.ofNat 2, .ofNat 39), (.ofNat 40, .ofNat 2147483647)] (zo_loadI 5 3)
noncomputable def s2X3_value_20 : zSem := zo_splL 4 [(.negSucc 2147483647, .negSucc 7), (.negSucc 6, .negSucc 0), (.ofNat 0, .ofNat 2147483647)] (zo_loadI 22 4)
noncomputable def k2X3_value : zCode := zrset (zrset kX3_value 4 (some s2X3_value_4)) 20 (some s2X3_value_20)
noncomputable def m2X3_value : zM := (yX3_value, cX3_value, 5, (some .int), 0, 0, k2X3_value)
set_option maxRecDepth 100000 in
set_option maxHeartbeats 4000000 in
theorem ok2X3_value {l : Launch} {D : va_G} {tys : List (ClassId × FieldType)} {o : zO} {z : Nat} (E : zEnv tys) : zCodeOk l D vwCl tys o z (zXX o z) zTs zprog m2X3_value :=
  (zCode_set (zCode_set (okX3_value E) (pc := 4) s2X3_value_4 rfl (fun _ _ _ _ _ _ _ _ _ _ _ C h => zk_splL (h))) (pc := 20) s2X3_value_20 rfl (fun _ _ _ _ _ _ _ _ _ _ _ C h => zk_splL (h)))
noncomputable def s2X4_addLeast_11 : zSem := zo_and2 12
noncomputable def s2X4_addLeast_65 : zSem := zo_and2 66
noncomputable def k2X4_addLeast : zCode := zrset (zrset kX4_addLeast 11 (some s2X4_addLeast_11)) 65 (some s2X4_addLeast_65)
noncomputable def m2X4_addLeast : zM := (yX4_addLeast, cX4_addLeast, 9, none, 0, 0, k2X4_addLeast)
set_option maxRecDepth 100000 in
set_option maxHeartbeats 4000000 in
theorem ok2X4_addLeast {l : Launch} {D : va_G} {tys : List (ClassId × FieldType)} {o : zO} {z : Nat} (E : zEnv tys) : zCodeOk l D vwCl tys o z (zXX o z) zTs zprog m2X4_addLeast :=
  (zCode_set (zCode_set (okX4_addLeast E) (pc := 11) s2X4_addLeast_11 rfl (fun _ _ _ _ _ _ _ _ _ _ _ C h => zqb_and2 C (zda zDX4_addLeast 11 rfl rfl))) (pc := 65) s2X4_addLeast_65 rfl (fun _ _ _ _ _ _ _ _ _ _ _ C h => zqb_and2 C (zda zDX4_addLeast 65 rfl rfl)))
noncomputable def s2X4_addLeastMost_11 : zSem := zo_and2 12
noncomputable def s2X4_addLeastMost_87 : zSem := zo_and2 88
noncomputable def k2X4_addLeastMost : zCode := zrset (zrset kX4_addLeastMost 11 (some s2X4_addLeastMost_11)) 87 (some s2X4_addLeastMost_87)
noncomputable def m2X4_addLeastMost : zM := (yX4_addLeastMost, cX4_addLeastMost, 9, none, 0, 0, k2X4_addLeastMost)
set_option maxRecDepth 100000 in
set_option maxHeartbeats 4000000 in
theorem ok2X4_addLeastMost {l : Launch} {D : va_G} {tys : List (ClassId × FieldType)} {o : zO} {z : Nat} (E : zEnv tys) : zCodeOk l D vwCl tys o z (zXX o z) zTs zprog m2X4_addLeastMost :=
  (zCode_set (zCode_set (okX4_addLeastMost E) (pc := 11) s2X4_addLeastMost_11 rfl (fun _ _ _ _ _ _ _ _ _ _ _ C h => zqb_and2 C (zda zDX4_addLeastMost 11 rfl rfl))) (pc := 87) s2X4_addLeastMost_87 rfl (fun _ _ _ _ _ _ _ _ _ _ _ C h => zqb_and2 C (zda zDX4_addLeastMost 87 rfl rfl)))
noncomputable def s2X4_addWays_26 : zSem := zo_and2 27
noncomputable def s2X4_addWays_80 : zSem := zo_and2 81
noncomputable def k2X4_addWays : zCode := zrset (zrset kX4_addWays 26 (some s2X4_addWays_26)) 80 (some s2X4_addWays_80)
noncomputable def m2X4_addWays : zM := (yX4_addWays, cX4_addWays, 9, none, 0, 0, k2X4_addWays)
set_option maxRecDepth 100000 in
set_option maxHeartbeats 4000000 in
theorem ok2X4_addWays {l : Launch} {D : va_G} {tys : List (ClassId × FieldType)} {o : zO} {z : Nat} (E : zEnv tys) : zCodeOk l D vwCl tys o z (zXX o z) zTs zprog m2X4_addWays :=
  (zCode_set (zCode_set (okX4_addWays E) (pc := 26) s2X4_addWays_26 rfl (fun _ _ _ _ _ _ _ _ _ _ _ C h => zqb_and2 C (zda zDX4_addWays 26 rfl rfl))) (pc := 80) s2X4_addWays_80 rfl (fun _ _ _ _ _ _ _ _ _ _ _ C h => zqb_and2 C (zda zDX4_addWays 80 rfl rfl)))
noncomputable def s2X4_tallyRider_64 : zSem := zo_and2 65
noncomputable def s2X4_tallyRider_91 : zSem := zo_and2 92
noncomputable def k2X4_tallyRider : zCode := zrset (zrset kX4_tallyRider 64 (some s2X4_tallyRider_64)) 91 (some s2X4_tallyRider_91)
noncomputable def m2X4_tallyRider : zM := (yX4_tallyRider, cX4_tallyRider, 5, none, 0, 0, k2X4_tallyRider)
set_option maxRecDepth 100000 in
set_option maxHeartbeats 4000000 in
theorem ok2X4_tallyRider {l : Launch} {D : va_G} {tys : List (ClassId × FieldType)} {o : zO} {z : Nat} (E : zEnv tys) : zCodeOk l D vwCl tys o z (zXX o z) zTs zprog m2X4_tallyRider :=
  (zCode_set (zCode_set (okX4_tallyRider E) (pc := 64) s2X4_tallyRider_64 rfl (fun _ _ _ _ _ _ _ _ _ _ _ C h => zqb_and2 C (zda zDX4_tallyRider 64 rfl rfl))) (pc := 91) s2X4_tallyRider_91 rfl (fun _ _ _ _ _ _ _ _ _ _ _ C h => zqb_and2 C (zda zDX4_tallyRider 91 rfl rfl)))
noncomputable def s2X4_waysRound_57 : zSem := zo_and2 58
noncomputable def k2X4_waysRound : zCode := zrset kX4_waysRound 57 (some s2X4_waysRound_57)
noncomputable def m2X4_waysRound : zM := (yX4_waysRound, cX4_waysRound, 5, (some .int), 0, 0, k2X4_waysRound)
set_option maxRecDepth 100000 in
set_option maxHeartbeats 4000000 in
theorem ok2X4_waysRound {l : Launch} {D : va_G} {tys : List (ClassId × FieldType)} {o : zO} {z : Nat} (E : zEnv tys) : zCodeOk l D vwCl tys o z (zXX o z) zTs zprog m2X4_waysRound :=
  (zCode_set (okX4_waysRound E) (pc := 57) s2X4_waysRound_57 rfl (fun _ _ _ _ _ _ _ _ _ _ _ C h => zqb_and2 C (zda zDX4_waysRound 57 rfl rfl)))
noncomputable def s2X6_add_0 : zSem := zo_splH 0 [] 1 [(.negSucc 2147483647, .negSucc 0), (.ofNat 0, .ofNat 76), (.ofNat 77, .ofNat 2147483647)] (zo_loadA 1 0)
noncomputable def k2X6_add : zCode := zrset kX6_add 0 (some s2X6_add_0)
noncomputable def m2X6_add : zM := (yX6_add, cX6_add, 3, (some .int), 0, 0, k2X6_add)
set_option maxRecDepth 100000 in
set_option maxHeartbeats 4000000 in
theorem ok2X6_add {l : Launch} {D : va_G} {tys : List (ClassId × FieldType)} {o : zO} {z : Nat} (E : zEnv tys) : zCodeOk l D vwCl tys o z (zXX o z) zTs zprog m2X6_add :=
  (zCode_set (okX6_add E) (pc := 0) s2X6_add_0 rfl (fun _ _ _ _ _ _ _ _ _ _ _ C h => zk_splH (h)))
noncomputable def s2X7_able_0 : zSem := zo_splL 1 [(.negSucc 2147483647, .negSucc 0), (.ofNat 0, .ofNat 7), (.ofNat 8, .ofNat 2147483647)] (zo_loadI 1 1)
noncomputable def k2X7_able : zCode := zrset kX7_able 0 (some s2X7_able_0)
noncomputable def m2X7_able : zM := (yX7_able, cX7_able, 5, (some .int), 0, 0, k2X7_able)
set_option maxRecDepth 100000 in
set_option maxHeartbeats 4000000 in
theorem ok2X7_able {l : Launch} {D : va_G} {tys : List (ClassId × FieldType)} {o : zO} {z : Nat} (E : zEnv tys) : zCodeOk l D vwCl tys o z (zXX o z) zTs zprog m2X7_able :=
  (zCode_set (okX7_able E) (pc := 0) s2X7_able_0 rfl (fun _ _ _ _ _ _ _ _ _ _ _ C h => zk_splL (h)))
noncomputable def s2X7_act_23 : zSem := zo_splT [(.negSucc 2147483647, .ofNat 102), (.ofNat 103, .ofNat 103), (.ofNat 104, .ofNat 104), (.ofNat 105, .ofNat 105), (.ofNat 106, .ofNat 109), (.ofNat 110, .ofNat 110), (.ofNat 111, .ofNat 2147483647)] (zo_lsw [(.ofNat 103, 78), (.ofNat 105, 71), (.ofNat 110, 56)] 87)
noncomputable def k2X7_act : zCode := zrset kX7_act 23 (some s2X7_act_23)
noncomputable def m2X7_act : zM := (yX7_act, cX7_act, 6, (some .boolean), 0, 0, k2X7_act)
set_option maxRecDepth 100000 in
set_option maxHeartbeats 4000000 in
theorem ok2X7_act {l : Launch} {D : va_G} {tys : List (ClassId × FieldType)} {o : zO} {z : Nat} (E : zEnv tys) : zCodeOk l D vwCl tys o z (zXX o z) zTs zprog m2X7_act :=
  (zCode_set (okX7_act E) (pc := 23) s2X7_act_23 rfl (fun _ _ _ _ _ _ _ _ _ _ _ C h => zk_splT h))
noncomputable def s2X7_actExchange_0 : zSem := zo_splL 1 [(.negSucc 2147483647, .negSucc 0), (.ofNat 0, .ofNat 7), (.ofNat 8, .ofNat 2147483647)] (zo_splL 2 [(.negSucc 2147483647, .negSucc 0), (.ofNat 0, .ofNat 7), (.ofNat 8, .ofNat 2147483647)] (zo_loadA 1 0))
noncomputable def k2X7_actExchange : zCode := zrset kX7_actExchange 0 (some s2X7_actExchange_0)
noncomputable def m2X7_actExchange : zM := (yX7_actExchange, cX7_actExchange, 4, (some .boolean), 0, 0, k2X7_actExchange)
set_option maxRecDepth 100000 in
set_option maxHeartbeats 4000000 in
theorem ok2X7_actExchange {l : Launch} {D : va_G} {tys : List (ClassId × FieldType)} {o : zO} {z : Nat} (E : zEnv tys) : zCodeOk l D vwCl tys o z (zXX o z) zTs zprog m2X7_actExchange :=
  (zCode_set (okX7_actExchange E) (pc := 0) s2X7_actExchange_0 rfl (fun _ _ _ _ _ _ _ _ _ _ _ C h => zk_splL (zk_splL (h))))
noncomputable def s2X7_actGive_0 : zSem := zo_splL 1 [(.negSucc 2147483647, .negSucc 0), (.ofNat 0, .ofNat 7), (.ofNat 8, .ofNat 2147483647)] (zo_splL 2 [(.negSucc 2147483647, .negSucc 1), (.negSucc 0, .negSucc 0), (.ofNat 0, .ofNat 7), (.ofNat 8, .ofNat 2147483647)] (zo_loadI 1 1))
noncomputable def k2X7_actGive : zCode := zrset kX7_actGive 0 (some s2X7_actGive_0)
noncomputable def m2X7_actGive : zM := (yX7_actGive, cX7_actGive, 3, (some .boolean), 0, 0, k2X7_actGive)
set_option maxRecDepth 100000 in
set_option maxHeartbeats 4000000 in
theorem ok2X7_actGive {l : Launch} {D : va_G} {tys : List (ClassId × FieldType)} {o : zO} {z : Nat} (E : zEnv tys) : zCodeOk l D vwCl tys o z (zXX o z) zTs zprog m2X7_actGive :=
  (zCode_set (okX7_actGive E) (pc := 0) s2X7_actGive_0 rfl (fun _ _ _ _ _ _ _ _ _ _ _ C h => zk_splL (zk_splL (h))))
noncomputable def s2X7_actIll_0 : zSem := zo_splL 1 [(.negSucc 2147483647, .negSucc 0), (.ofNat 0, .ofNat 7), (.ofNat 8, .ofNat 2147483647)] (zo_loadA 1 0)
noncomputable def k2X7_actIll : zCode := zrset kX7_actIll 0 (some s2X7_actIll_0)
noncomputable def m2X7_actIll : zM := (yX7_actIll, cX7_actIll, 2, (some .boolean), 0, 0, k2X7_actIll)
set_option maxRecDepth 100000 in
set_option maxHeartbeats 4000000 in
theorem ok2X7_actIll {l : Launch} {D : va_G} {tys : List (ClassId × FieldType)} {o : zO} {z : Nat} (E : zEnv tys) : zCodeOk l D vwCl tys o z (zXX o z) zTs zprog m2X7_actIll :=
  (zCode_set (okX7_actIll E) (pc := 0) s2X7_actIll_0 rfl (fun _ _ _ _ _ _ _ _ _ _ _ C h => zk_splL (h)))
noncomputable def s2X7_actSigns_1 : zSem := zo_splT [(.negSucc 2147483647, .ofNat 102), (.ofNat 103, .ofNat 103), (.ofNat 104, .ofNat 104), (.ofNat 105, .ofNat 105), (.ofNat 106, .ofNat 109), (.ofNat 110, .ofNat 110), (.ofNat 111, .ofNat 119), (.ofNat 120, .ofNat 120), (.ofNat 121, .ofNat 2147483647)] (zo_lsw [(.ofNat 103, 46), (.ofNat 105, 44), (.ofNat 110, 44), (.ofNat 120, 46)] 48)
noncomputable def k2X7_actSigns : zCode := zrset kX7_actSigns 1 (some s2X7_actSigns_1)
noncomputable def m2X7_actSigns : zM := (yX7_actSigns, cX7_actSigns, 1, (some .int), 0, 0, k2X7_actSigns)
set_option maxRecDepth 100000 in
set_option maxHeartbeats 4000000 in
theorem ok2X7_actSigns {l : Launch} {D : va_G} {tys : List (ClassId × FieldType)} {o : zO} {z : Nat} (E : zEnv tys) : zCodeOk l D vwCl tys o z (zXX o z) zTs zprog m2X7_actSigns :=
  (zCode_set (okX7_actSigns E) (pc := 1) s2X7_actSigns_1 rfl (fun _ _ _ _ _ _ _ _ _ _ _ C h => zk_splT h))
noncomputable def s2X7_again_0 : zSem := zo_splL 1 [(.negSucc 2147483647, .negSucc 0), (.ofNat 0, .ofNat 0), (.ofNat 1, .ofNat 1), (.ofNat 2, .ofNat 2147483647)] (zo_loadI 1 1)
noncomputable def k2X7_again : zCode := zrset kX7_again 0 (some s2X7_again_0)
noncomputable def m2X7_again : zM := (yX7_again, cX7_again, 2, (some .boolean), 0, 0, k2X7_again)
set_option maxRecDepth 100000 in
set_option maxHeartbeats 4000000 in
theorem ok2X7_again {l : Launch} {D : va_G} {tys : List (ClassId × FieldType)} {o : zO} {z : Nat} (E : zEnv tys) : zCodeOk l D vwCl tys o z (zXX o z) zTs zprog m2X7_again :=
  (zCode_set (okX7_again E) (pc := 0) s2X7_again_0 rfl (fun _ _ _ _ _ _ _ _ _ _ _ C h => zk_splL (h)))
noncomputable def s2X7_changes_42 : zSem := zo_splL 5 [(.negSucc 2147483647, .negSucc 0), (.ofNat 0, .ofNat 7), (.ofNat 8, .ofNat 2147483647)] (zo_splL 6 [(.negSucc 2147483647, .negSucc 0), (.ofNat 0, .ofNat 7), (.ofNat 8, .ofNat 2147483647)] (zo_loadA 43 0))
noncomputable def k2X7_changes : zCode := zrset kX7_changes 42 (some s2X7_changes_42)
noncomputable def m2X7_changes : zM := (yX7_changes, cX7_changes, 8, (some .int), 0, 0, k2X7_changes)
set_option maxRecDepth 100000 in
set_option maxHeartbeats 4000000 in
theorem ok2X7_changes {l : Launch} {D : va_G} {tys : List (ClassId × FieldType)} {o : zO} {z : Nat} (E : zEnv tys) : zCodeOk l D vwCl tys o z (zXX o z) zTs zprog m2X7_changes :=
  (zCode_set (okX7_changes E) (pc := 42) s2X7_changes_42 rfl (fun _ _ _ _ _ _ _ _ _ _ _ C h => zk_splL (zk_splL (h))))
noncomputable def s2X7_count_0 : zSem := zo_splL 1 [(.negSucc 2147483647, .ofNat 19), (.ofNat 20, .ofNat 27), (.ofNat 28, .ofNat 2147483647)] (zo_loadI 1 1)
noncomputable def s2X7_count_26 : zSem := zo_splT [(.negSucc 2147483647, .negSucc 0), (.ofNat 0, .ofNat 0), (.ofNat 1, .ofNat 1), (.ofNat 2, .ofNat 2), (.ofNat 3, .ofNat 3), (.ofNat 4, .ofNat 4), (.ofNat 5, .ofNat 5), (.ofNat 6, .ofNat 6), (.ofNat 7, .ofNat 7), (.ofNat 8, .ofNat 8), (.ofNat 9, .ofNat 9), (.ofNat 10, .ofNat 10), (.ofNat 11, .ofNat 11), (.ofNat 12, .ofNat 2147483647)] (zo_tab (.ofNat 0) [88, 96, 104, 112, 120, 128, 136, 144, 152, 157, 165, 173] 181)
noncomputable def k2X7_count : zCode := zrset (zrset kX7_count 0 (some s2X7_count_0)) 26 (some s2X7_count_26)
noncomputable def m2X7_count : zM := (yX7_count, cX7_count, 2, (some .int), 0, 0, k2X7_count)
set_option maxRecDepth 100000 in
set_option maxHeartbeats 4000000 in
theorem ok2X7_count {l : Launch} {D : va_G} {tys : List (ClassId × FieldType)} {o : zO} {z : Nat} (E : zEnv tys) : zCodeOk l D vwCl tys o z (zXX o z) zTs zprog m2X7_count :=
  (zCode_set (zCode_set (okX7_count E) (pc := 0) s2X7_count_0 rfl (fun _ _ _ _ _ _ _ _ _ _ _ C h => zk_splL (h))) (pc := 26) s2X7_count_26 rfl (fun _ _ _ _ _ _ _ _ _ _ _ C h => zk_splT h))
noncomputable def s2X7_draw_0 : zSem := zo_splL 1 [(.negSucc 2147483647, .ofNat 0), (.ofNat 1, .ofNat 2147483647)] (zo_loadA 1 0)
noncomputable def k2X7_draw : zCode := zrset kX7_draw 0 (some s2X7_draw_0)
noncomputable def m2X7_draw : zM := (yX7_draw, cX7_draw, 2, (some .int), 0, 0, k2X7_draw)
set_option maxRecDepth 100000 in
set_option maxHeartbeats 4000000 in
theorem ok2X7_draw {l : Launch} {D : va_G} {tys : List (ClassId × FieldType)} {o : zO} {z : Nat} (E : zEnv tys) : zCodeOk l D vwCl tys o z (zXX o z) zTs zprog m2X7_draw :=
  (zCode_set (okX7_draw E) (pc := 0) s2X7_draw_0 rfl (fun _ _ _ _ _ _ _ _ _ _ _ C h => zk_splL (h)))
noncomputable def s2X7_end_0 : zSem := zo_splL 1 [(.negSucc 2147483647, .negSucc 0), (.ofNat 0, .ofNat 80), (.ofNat 81, .ofNat 2147483647)] (zo_loadA 1 0)
noncomputable def k2X7_end : zCode := zrset kX7_end 0 (some s2X7_end_0)
noncomputable def m2X7_end : zM := (yX7_end, cX7_end, 2, (some .boolean), 0, 0, k2X7_end)
set_option maxRecDepth 100000 in
set_option maxHeartbeats 4000000 in
theorem ok2X7_end {l : Launch} {D : va_G} {tys : List (ClassId × FieldType)} {o : zO} {z : Nat} (E : zEnv tys) : zCodeOk l D vwCl tys o z (zXX o z) zTs zprog m2X7_end :=
  (zCode_set (okX7_end E) (pc := 0) s2X7_end_0 rfl (fun _ _ _ _ _ _ _ _ _ _ _ C h => zk_splL (h)))
noncomputable def s2X7_first_0 : zSem := zo_splL 1 [(.negSucc 2147483647, .ofNat 0), (.ofNat 1, .ofNat 60), (.ofNat 61, .ofNat 2147483647)] (zo_loadI 1 1)
noncomputable def k2X7_first : zCode := zrset kX7_first 0 (some s2X7_first_0)
noncomputable def m2X7_first : zM := (yX7_first, cX7_first, 3, (some .int), 0, 0, k2X7_first)
set_option maxRecDepth 100000 in
set_option maxHeartbeats 4000000 in
theorem ok2X7_first {l : Launch} {D : va_G} {tys : List (ClassId × FieldType)} {o : zO} {z : Nat} (E : zEnv tys) : zCodeOk l D vwCl tys o z (zXX o z) zTs zprog m2X7_first :=
  (zCode_set (okX7_first E) (pc := 0) s2X7_first_0 rfl (fun _ _ _ _ _ _ _ _ _ _ _ C h => zk_splL (h)))
noncomputable def s2X7_found_0 : zSem := zo_splL 1 [(.negSucc 2147483647, .negSucc 0), (.ofNat 0, .ofNat 7), (.ofNat 8, .ofNat 2147483647)] (zo_splL 2 [(.negSucc 2147483647, .negSucc 0), (.ofNat 0, .ofNat 7), (.ofNat 8, .ofNat 2147483647)] (zo_splL 3 [(.negSucc 2147483647, .negSucc 0), (.ofNat 0, .ofNat 1), (.ofNat 2, .ofNat 2147483647)] (zo_splH 0 [] 13 [(.negSucc 2147483647, .negSucc 0), (.ofNat 0, .ofNat 11), (.ofNat 12, .ofNat 12), (.ofNat 13, .ofNat 2147483647)] (zo_loadI 1 1))))
noncomputable def k2X7_found : zCode := zrset kX7_found 0 (some s2X7_found_0)
noncomputable def m2X7_found : zM := (yX7_found, cX7_found, 4, (some .int), 0, 0, k2X7_found)
set_option maxRecDepth 100000 in
set_option maxHeartbeats 4000000 in
theorem ok2X7_found {l : Launch} {D : va_G} {tys : List (ClassId × FieldType)} {o : zO} {z : Nat} (E : zEnv tys) : zCodeOk l D vwCl tys o z (zXX o z) zTs zprog m2X7_found :=
  (zCode_set (okX7_found E) (pc := 0) s2X7_found_0 rfl (fun _ _ _ _ _ _ _ _ _ _ _ C h => zk_splL (zk_splL (zk_splL (zk_splH (h))))))
noncomputable def s2X7_give_0 : zSem := zo_splL 1 [(.negSucc 2147483647, .negSucc 0), (.ofNat 0, .ofNat 7), (.ofNat 8, .ofNat 2147483647)] (zo_splL 2 [(.negSucc 2147483647, .negSucc 1), (.negSucc 0, .negSucc 0), (.ofNat 0, .ofNat 7), (.ofNat 8, .ofNat 2147483647)] (zo_loadI 1 1))
noncomputable def k2X7_give : zCode := zrset kX7_give 0 (some s2X7_give_0)
noncomputable def m2X7_give : zM := (yX7_give, cX7_give, 4, (some .int), 0, 0, k2X7_give)
set_option maxRecDepth 100000 in
set_option maxHeartbeats 4000000 in
theorem ok2X7_give {l : Launch} {D : va_G} {tys : List (ClassId × FieldType)} {o : zO} {z : Nat} (E : zEnv tys) : zCodeOk l D vwCl tys o z (zXX o z) zTs zprog m2X7_give :=
  (zCode_set (okX7_give E) (pc := 0) s2X7_give_0 rfl (fun _ _ _ _ _ _ _ _ _ _ _ C h => zk_splL (zk_splL (h))))
noncomputable def s2X7_greatestShared_3 : zSem := zo_splL 0 [(.negSucc 9223372036854775807, .negSucc 0), (.ofNat 0, .ofNat 0), (.ofNat 1, .ofNat 9223372036854775807)] (zo_splL 2 [(.negSucc 9223372036854775807, .negSucc 0), (.ofNat 0, .ofNat 0), (.ofNat 1, .ofNat 9223372036854775807)] (zo_loadI 5 4))
noncomputable def k2X7_greatestShared : zCode := zrset kX7_greatestShared 3 (some s2X7_greatestShared_3)
noncomputable def m2X7_greatestShared : zM := (yX7_greatestShared, cX7_greatestShared, 7, (some .long), 0, 0, k2X7_greatestShared)
set_option maxRecDepth 100000 in
set_option maxHeartbeats 4000000 in
theorem ok2X7_greatestShared {l : Launch} {D : va_G} {tys : List (ClassId × FieldType)} {o : zO} {z : Nat} (E : zEnv tys) : zCodeOk l D vwCl tys o z (zXX o z) zTs zprog m2X7_greatestShared :=
  (zCode_set (okX7_greatestShared E) (pc := 3) s2X7_greatestShared_3 rfl (fun _ _ _ _ _ _ _ _ _ _ _ C h => zk_splL (zk_splL (h))))
noncomputable def s2X7_hard_0 : zSem := zo_splL 1 [(.negSucc 2147483647, .negSucc 0), (.ofNat 0, .ofNat 7), (.ofNat 8, .ofNat 2147483647)] (zo_splL 2 [(.negSucc 2147483647, .negSucc 0), (.ofNat 0, .ofNat 7), (.ofNat 8, .ofNat 2147483647)] (zo_loadA 1 0))
noncomputable def k2X7_hard : zCode := zrset kX7_hard 0 (some s2X7_hard_0)
noncomputable def m2X7_hard : zM := (yX7_hard, cX7_hard, 3, (some .int), 0, 0, k2X7_hard)
set_option maxRecDepth 100000 in
set_option maxHeartbeats 4000000 in
theorem ok2X7_hard {l : Launch} {D : va_G} {tys : List (ClassId × FieldType)} {o : zO} {z : Nat} (E : zEnv tys) : zCodeOk l D vwCl tys o z (zXX o z) zTs zprog m2X7_hard :=
  (zCode_set (okX7_hard E) (pc := 0) s2X7_hard_0 rfl (fun _ _ _ _ _ _ _ _ _ _ _ C h => zk_splL (zk_splL (h))))
noncomputable def s2X7_hardOfRota_26 : zSem := zo_splL 4 [(.negSucc 2147483647, .negSucc 0), (.ofNat 0, .ofNat 7), (.ofNat 8, .ofNat 2147483647)] (zo_loadI 27 2)
noncomputable def k2X7_hardOfRota : zCode := zrset kX7_hardOfRota 26 (some s2X7_hardOfRota_26)
noncomputable def m2X7_hardOfRota : zM := (yX7_hardOfRota, cX7_hardOfRota, 5, (some .int), 0, 0, k2X7_hardOfRota)
set_option maxRecDepth 100000 in
set_option maxHeartbeats 4000000 in
theorem ok2X7_hardOfRota {l : Launch} {D : va_G} {tys : List (ClassId × FieldType)} {o : zO} {z : Nat} (E : zEnv tys) : zCodeOk l D vwCl tys o z (zXX o z) zTs zprog m2X7_hardOfRota :=
  (zCode_set (okX7_hardOfRota E) (pc := 26) s2X7_hardOfRota_26 rfl (fun _ _ _ _ _ _ _ _ _ _ _ C h => zk_splL (h)))
noncomputable def s2X7_held_0 : zSem := zo_splL 1 [(.negSucc 2147483647, .negSucc 0), (.ofNat 0, .ofNat 10), (.ofNat 11, .ofNat 2147483647)] (zo_loadI 1 1)
noncomputable def k2X7_held : zCode := zrset kX7_held 0 (some s2X7_held_0)
noncomputable def m2X7_held : zM := (yX7_held, cX7_held, 2, (some .int), 0, 0, k2X7_held)
set_option maxRecDepth 100000 in
set_option maxHeartbeats 4000000 in
theorem ok2X7_held {l : Launch} {D : va_G} {tys : List (ClassId × FieldType)} {o : zO} {z : Nat} (E : zEnv tys) : zCodeOk l D vwCl tys o z (zXX o z) zTs zprog m2X7_held :=
  (zCode_set (okX7_held E) (pc := 0) s2X7_held_0 rfl (fun _ _ _ _ _ _ _ _ _ _ _ C h => zk_splL (h)))
noncomputable def s2X7_ill_0 : zSem := zo_splL 1 [(.negSucc 2147483647, .negSucc 0), (.ofNat 0, .ofNat 7), (.ofNat 8, .ofNat 2147483647)] (zo_loadA 1 0)
noncomputable def k2X7_ill : zCode := zrset kX7_ill 0 (some s2X7_ill_0)
noncomputable def m2X7_ill : zM := (yX7_ill, cX7_ill, 2, (some .int), 0, 0, k2X7_ill)
set_option maxRecDepth 100000 in
set_option maxHeartbeats 4000000 in
theorem ok2X7_ill {l : Launch} {D : va_G} {tys : List (ClassId × FieldType)} {o : zO} {z : Nat} (E : zEnv tys) : zCodeOk l D vwCl tys o z (zXX o z) zTs zprog m2X7_ill :=
  (zCode_set (okX7_ill E) (pc := 0) s2X7_ill_0 rfl (fun _ _ _ _ _ _ _ _ _ _ _ C h => zk_splL (h)))
noncomputable def s2X7_keep_0 : zSem := zo_splL 1 [(.negSucc 2147483647, .negSucc 0), (.ofNat 0, .ofNat 0), (.ofNat 1, .ofNat 1), (.ofNat 2, .ofNat 2147483647)] (zo_loadI 1 1)
noncomputable def k2X7_keep : zCode := zrset kX7_keep 0 (some s2X7_keep_0)
noncomputable def m2X7_keep : zM := (yX7_keep, cX7_keep, 2, (some .boolean), 0, 0, k2X7_keep)
set_option maxRecDepth 100000 in
set_option maxHeartbeats 4000000 in
theorem ok2X7_keep {l : Launch} {D : va_G} {tys : List (ClassId × FieldType)} {o : zO} {z : Nat} (E : zEnv tys) : zCodeOk l D vwCl tys o z (zXX o z) zTs zprog m2X7_keep :=
  (zCode_set (okX7_keep E) (pc := 0) s2X7_keep_0 rfl (fun _ _ _ _ _ _ _ _ _ _ _ C h => zk_splL (h)))
noncomputable def s2X7_keystone_0 : zSem := zo_splL 1 [(.negSucc 2147483647, .negSucc 0), (.ofNat 0, .ofNat 10), (.ofNat 11, .ofNat 2147483647)] (zo_loadI 1 1)
noncomputable def k2X7_keystone : zCode := zrset kX7_keystone 0 (some s2X7_keystone_0)
noncomputable def m2X7_keystone : zM := (yX7_keystone, cX7_keystone, 9, (some .int), 0, 0, k2X7_keystone)
set_option maxRecDepth 100000 in
set_option maxHeartbeats 4000000 in
theorem ok2X7_keystone {l : Launch} {D : va_G} {tys : List (ClassId × FieldType)} {o : zO} {z : Nat} (E : zEnv tys) : zCodeOk l D vwCl tys o z (zXX o z) zTs zprog m2X7_keystone :=
  (zCode_set (okX7_keystone E) (pc := 0) s2X7_keystone_0 rfl (fun _ _ _ _ _ _ _ _ _ _ _ C h => zk_splL (h)))
noncomputable def s2X7_later_0 : zSem := zo_splL 1 [(.negSucc 2147483647, .negSucc 0), (.ofNat 0, .ofNat 60), (.ofNat 61, .ofNat 2147483647)] (zo_loadI 1 1)
noncomputable def k2X7_later : zCode := zrset kX7_later 0 (some s2X7_later_0)
noncomputable def m2X7_later : zM := (yX7_later, cX7_later, 2, (some .int), 0, 0, k2X7_later)
set_option maxRecDepth 100000 in
set_option maxHeartbeats 4000000 in
theorem ok2X7_later {l : Launch} {D : va_G} {tys : List (ClassId × FieldType)} {o : zO} {z : Nat} (E : zEnv tys) : zCodeOk l D vwCl tys o z (zXX o z) zTs zprog m2X7_later :=
  (zCode_set (okX7_later E) (pc := 0) s2X7_later_0 rfl (fun _ _ _ _ _ _ _ _ _ _ _ C h => zk_splL (h)))
noncomputable def s2X7_lowest_0 : zSem := zo_splL 0 [(.negSucc 2147483647, .ofNat 0), (.ofNat 1, .ofNat 1), (.ofNat 2, .ofNat 2), (.ofNat 3, .ofNat 3), (.ofNat 4, .ofNat 4), (.ofNat 5, .ofNat 5), (.ofNat 6, .ofNat 6), (.ofNat 7, .ofNat 7), (.ofNat 8, .ofNat 8), (.ofNat 9, .ofNat 9), (.ofNat 10, .ofNat 10), (.ofNat 11, .ofNat 11), (.ofNat 12, .ofNat 12), (.ofNat 13, .ofNat 13), (.ofNat 14, .ofNat 14), (.ofNat 15, .ofNat 15), (.ofNat 16, .ofNat 16), (.ofNat 17, .ofNat 17), (.ofNat 18, .ofNat 18), (.ofNat 19, .ofNat 19), (.ofNat 20, .ofNat 20), (.ofNat 21, .ofNat 21), (.ofNat 22, .ofNat 22), (.ofNat 23, .ofNat 23), (.ofNat 24, .ofNat 24), (.ofNat 25, .ofNat 25), (.ofNat 26, .ofNat 26), (.ofNat 27, .ofNat 27), (.ofNat 28, .ofNat 28), (.ofNat 29, .ofNat 29), (.ofNat 30, .ofNat 30), (.ofNat 31, .ofNat 31), (.ofNat 32, .ofNat 32), (.ofNat 33, .ofNat 33), (.ofNat 34, .ofNat 34), (.ofNat 35, .ofNat 35), (.ofNat 36, .ofNat 36), (.ofNat 37, .ofNat 37), (.ofNat 38, .ofNat 38), (.ofNat 39, .ofNat 39), (.ofNat 40, .ofNat 40), (.ofNat 41, .ofNat 41), (.ofNat 42, .ofNat 42), (.ofNat 43, .ofNat 43), (.ofNat 44, .ofNat 44), (.ofNat 45, .ofNat 45), (.ofNat 46, .ofNat 46), (.ofNat 47, .ofNat 47), (.ofNat 48, .ofNat 48), (.ofNat 49, .ofNat 49), (.ofNat 50, .ofNat 50), (.ofNat 51, .ofNat 51), (.ofNat 52, .ofNat 52), (.ofNat 53, .ofNat 53), (.ofNat 54, .ofNat 54), (.ofNat 55, .ofNat 55), (.ofNat 56, .ofNat 56), (.ofNat 57, .ofNat 57), (.ofNat 58, .ofNat 58), (.ofNat 59, .ofNat 59), (.ofNat 60, .ofNat 60), (.ofNat 61, .ofNat 61), (.ofNat 62, .ofNat 62), (.ofNat 63, .ofNat 63), (.ofNat 64, .ofNat 64), (.ofNat 65, .ofNat 65), (.ofNat 66, .ofNat 66), (.ofNat 67, .ofNat 67), (.ofNat 68, .ofNat 68), (.ofNat 69, .ofNat 69), (.ofNat 70, .ofNat 70), (.ofNat 71, .ofNat 71), (.ofNat 72, .ofNat 72), (.ofNat 73, .ofNat 73), (.ofNat 74, .ofNat 74), (.ofNat 75, .ofNat 75), (.ofNat 76, .ofNat 76), (.ofNat 77, .ofNat 77), (.ofNat 78, .ofNat 78), (.ofNat 79, .ofNat 79), (.ofNat 80, .ofNat 80), (.ofNat 81, .ofNat 81), (.ofNat 82, .ofNat 82), (.ofNat 83, .ofNat 83), (.ofNat 84, .ofNat 84), (.ofNat 85, .ofNat 85), (.ofNat 86, .ofNat 86), (.ofNat 87, .ofNat 87), (.ofNat 88, .ofNat 88), (.ofNat 89, .ofNat 89), (.ofNat 90, .ofNat 90), (.ofNat 91, .ofNat 91), (.ofNat 92, .ofNat 92), (.ofNat 93, .ofNat 93), (.ofNat 94, .ofNat 94), (.ofNat 95, .ofNat 95), (.ofNat 96, .ofNat 96), (.ofNat 97, .ofNat 97), (.ofNat 98, .ofNat 98), (.ofNat 99, .ofNat 99), (.ofNat 100, .ofNat 100), (.ofNat 101, .ofNat 101), (.ofNat 102, .ofNat 102), (.ofNat 103, .ofNat 103), (.ofNat 104, .ofNat 104), (.ofNat 105, .ofNat 105), (.ofNat 106, .ofNat 106), (.ofNat 107, .ofNat 107), (.ofNat 108, .ofNat 108), (.ofNat 109, .ofNat 109), (.ofNat 110, .ofNat 110), (.ofNat 111, .ofNat 111), (.ofNat 112, .ofNat 112), (.ofNat 113, .ofNat 113), (.ofNat 114, .ofNat 114), (.ofNat 115, .ofNat 115), (.ofNat 116, .ofNat 116), (.ofNat 117, .ofNat 117), (.ofNat 118, .ofNat 118), (.ofNat 119, .ofNat 119), (.ofNat 120, .ofNat 120), (.ofNat 121, .ofNat 121), (.ofNat 122, .ofNat 122), (.ofNat 123, .ofNat 123), (.ofNat 124, .ofNat 124), (.ofNat 125, .ofNat 125), (.ofNat 126, .ofNat 126), (.ofNat 127, .ofNat 127), (.ofNat 128, .ofNat 128), (.ofNat 129, .ofNat 129), (.ofNat 130, .ofNat 130), (.ofNat 131, .ofNat 131), (.ofNat 132, .ofNat 132), (.ofNat 133, .ofNat 133), (.ofNat 134, .ofNat 134), (.ofNat 135, .ofNat 135), (.ofNat 136, .ofNat 136), (.ofNat 137, .ofNat 137), (.ofNat 138, .ofNat 138), (.ofNat 139, .ofNat 139), (.ofNat 140, .ofNat 140), (.ofNat 141, .ofNat 141), (.ofNat 142, .ofNat 142), (.ofNat 143, .ofNat 143), (.ofNat 144, .ofNat 144), (.ofNat 145, .ofNat 145), (.ofNat 146, .ofNat 146), (.ofNat 147, .ofNat 147), (.ofNat 148, .ofNat 148), (.ofNat 149, .ofNat 149), (.ofNat 150, .ofNat 150), (.ofNat 151, .ofNat 151), (.ofNat 152, .ofNat 152), (.ofNat 153, .ofNat 153), (.ofNat 154, .ofNat 154), (.ofNat 155, .ofNat 155), (.ofNat 156, .ofNat 156), (.ofNat 157, .ofNat 157), (.ofNat 158, .ofNat 158), (.ofNat 159, .ofNat 159), (.ofNat 160, .ofNat 160), (.ofNat 161, .ofNat 161), (.ofNat 162, .ofNat 162), (.ofNat 163, .ofNat 163), (.ofNat 164, .ofNat 164), (.ofNat 165, .ofNat 165), (.ofNat 166, .ofNat 166), (.ofNat 167, .ofNat 167), (.ofNat 168, .ofNat 168), (.ofNat 169, .ofNat 169), (.ofNat 170, .ofNat 170), (.ofNat 171, .ofNat 171), (.ofNat 172, .ofNat 172), (.ofNat 173, .ofNat 173), (.ofNat 174, .ofNat 174), (.ofNat 175, .ofNat 175), (.ofNat 176, .ofNat 176), (.ofNat 177, .ofNat 177), (.ofNat 178, .ofNat 178), (.ofNat 179, .ofNat 179), (.ofNat 180, .ofNat 180), (.ofNat 181, .ofNat 181), (.ofNat 182, .ofNat 182), (.ofNat 183, .ofNat 183), (.ofNat 184, .ofNat 184), (.ofNat 185, .ofNat 185), (.ofNat 186, .ofNat 186), (.ofNat 187, .ofNat 187), (.ofNat 188, .ofNat 188), (.ofNat 189, .ofNat 189), (.ofNat 190, .ofNat 190), (.ofNat 191, .ofNat 191), (.ofNat 192, .ofNat 192), (.ofNat 193, .ofNat 193), (.ofNat 194, .ofNat 194), (.ofNat 195, .ofNat 195), (.ofNat 196, .ofNat 196), (.ofNat 197, .ofNat 197), (.ofNat 198, .ofNat 198), (.ofNat 199, .ofNat 199), (.ofNat 200, .ofNat 200), (.ofNat 201, .ofNat 201), (.ofNat 202, .ofNat 202), (.ofNat 203, .ofNat 203), (.ofNat 204, .ofNat 204), (.ofNat 205, .ofNat 205), (.ofNat 206, .ofNat 206), (.ofNat 207, .ofNat 207), (.ofNat 208, .ofNat 208), (.ofNat 209, .ofNat 209), (.ofNat 210, .ofNat 210), (.ofNat 211, .ofNat 211), (.ofNat 212, .ofNat 212), (.ofNat 213, .ofNat 213), (.ofNat 214, .ofNat 214), (.ofNat 215, .ofNat 215), (.ofNat 216, .ofNat 216), (.ofNat 217, .ofNat 217), (.ofNat 218, .ofNat 218), (.ofNat 219, .ofNat 219), (.ofNat 220, .ofNat 220), (.ofNat 221, .ofNat 221), (.ofNat 222, .ofNat 222), (.ofNat 223, .ofNat 223), (.ofNat 224, .ofNat 224), (.ofNat 225, .ofNat 225), (.ofNat 226, .ofNat 226), (.ofNat 227, .ofNat 227), (.ofNat 228, .ofNat 228), (.ofNat 229, .ofNat 229), (.ofNat 230, .ofNat 230), (.ofNat 231, .ofNat 231), (.ofNat 232, .ofNat 232), (.ofNat 233, .ofNat 233), (.ofNat 234, .ofNat 234), (.ofNat 235, .ofNat 235), (.ofNat 236, .ofNat 236), (.ofNat 237, .ofNat 237), (.ofNat 238, .ofNat 238), (.ofNat 239, .ofNat 239), (.ofNat 240, .ofNat 240), (.ofNat 241, .ofNat 241), (.ofNat 242, .ofNat 242), (.ofNat 243, .ofNat 243), (.ofNat 244, .ofNat 244), (.ofNat 245, .ofNat 245), (.ofNat 246, .ofNat 246), (.ofNat 247, .ofNat 247), (.ofNat 248, .ofNat 248), (.ofNat 249, .ofNat 249), (.ofNat 250, .ofNat 250), (.ofNat 251, .ofNat 251), (.ofNat 252, .ofNat 252), (.ofNat 253, .ofNat 253), (.ofNat 254, .ofNat 254), (.ofNat 255, .ofNat 255), (.ofNat 256, .ofNat 2147483647)] (zo_loadI 1 0)
noncomputable def k2X7_lowest : zCode := zrset kX7_lowest 0 (some s2X7_lowest_0)
noncomputable def m2X7_lowest : zM := (yX7_lowest, cX7_lowest, 1, (some .int), 0, 0, k2X7_lowest)
set_option maxRecDepth 100000 in
set_option maxHeartbeats 4000000 in
theorem ok2X7_lowest {l : Launch} {D : va_G} {tys : List (ClassId × FieldType)} {o : zO} {z : Nat} (E : zEnv tys) : zCodeOk l D vwCl tys o z (zXX o z) zTs zprog m2X7_lowest :=
  (zCode_set (okX7_lowest E) (pc := 0) s2X7_lowest_0 rfl (fun _ _ _ _ _ _ _ _ _ _ _ C h => zk_splL (h)))
noncomputable def s2X7_meets_0 : zSem := zo_splL 1 [(.negSucc 2147483647, .negSucc 0), (.ofNat 0, .ofNat 7), (.ofNat 8, .ofNat 2147483647)] (zo_splL 2 [(.negSucc 2147483647, .negSucc 0), (.ofNat 0, .ofNat 7), (.ofNat 8, .ofNat 2147483647)] (zo_splL 3 [(.negSucc 2147483647, .ofNat 1), (.ofNat 2, .ofNat 40), (.ofNat 41, .ofNat 2147483647)] (zo_loadA 1 0)))
noncomputable def k2X7_meets : zCode := zrset kX7_meets 0 (some s2X7_meets_0)
noncomputable def m2X7_meets : zM := (yX7_meets, cX7_meets, 7, (some .int), 0, 0, k2X7_meets)
set_option maxRecDepth 100000 in
set_option maxHeartbeats 4000000 in
theorem ok2X7_meets {l : Launch} {D : va_G} {tys : List (ClassId × FieldType)} {o : zO} {z : Nat} (E : zEnv tys) : zCodeOk l D vwCl tys o z (zXX o z) zTs zprog m2X7_meets :=
  (zCode_set (okX7_meets E) (pc := 0) s2X7_meets_0 rfl (fun _ _ _ _ _ _ _ _ _ _ _ C h => zk_splL (zk_splL (zk_splL (h)))))
noncomputable def s2X7_mended_0 : zSem := zo_splL 1 [(.negSucc 2147483647, .negSucc 0), (.ofNat 0, .ofNat 7), (.ofNat 8, .ofNat 2147483647)] (zo_loadA 1 0)
noncomputable def k2X7_mended : zCode := zrset kX7_mended 0 (some s2X7_mended_0)
noncomputable def m2X7_mended : zM := (yX7_mended, cX7_mended, 4, (some .int), 0, 0, k2X7_mended)
set_option maxRecDepth 100000 in
set_option maxHeartbeats 4000000 in
theorem ok2X7_mended {l : Launch} {D : va_G} {tys : List (ClassId × FieldType)} {o : zO} {z : Nat} (E : zEnv tys) : zCodeOk l D vwCl tys o z (zXX o z) zTs zprog m2X7_mended :=
  (zCode_set (okX7_mended E) (pc := 0) s2X7_mended_0 rfl (fun _ _ _ _ _ _ _ _ _ _ _ C h => zk_splL (h)))
noncomputable def s2X7_missed_0 : zSem := zo_splL 1 [(.negSucc 2147483647, .negSucc 0), (.ofNat 0, .ofNat 7), (.ofNat 8, .ofNat 2147483647)] (zo_loadA 1 0)
noncomputable def k2X7_missed : zCode := zrset kX7_missed 0 (some s2X7_missed_0)
noncomputable def m2X7_missed : zM := (yX7_missed, cX7_missed, 6, (some .int), 0, 0, k2X7_missed)
set_option maxRecDepth 100000 in
set_option maxHeartbeats 4000000 in
theorem ok2X7_missed {l : Launch} {D : va_G} {tys : List (ClassId × FieldType)} {o : zO} {z : Nat} (E : zEnv tys) : zCodeOk l D vwCl tys o z (zXX o z) zTs zprog m2X7_missed :=
  (zCode_set (okX7_missed E) (pc := 0) s2X7_missed_0 rfl (fun _ _ _ _ _ _ _ _ _ _ _ C h => zk_splL (h)))
noncomputable def s2X7_nights_0 : zSem := zo_splL 1 [(.negSucc 2147483647, .negSucc 0), (.ofNat 0, .ofNat 30), (.ofNat 31, .ofNat 2147483647)] (zo_loadI 1 1)
noncomputable def k2X7_nights : zCode := zrset kX7_nights 0 (some s2X7_nights_0)
noncomputable def m2X7_nights : zM := (yX7_nights, cX7_nights, 4, (some .int), 0, 0, k2X7_nights)
set_option maxRecDepth 100000 in
set_option maxHeartbeats 4000000 in
theorem ok2X7_nights {l : Launch} {D : va_G} {tys : List (ClassId × FieldType)} {o : zO} {z : Nat} (E : zEnv tys) : zCodeOk l D vwCl tys o z (zXX o z) zTs zprog m2X7_nights :=
  (zCode_set (okX7_nights E) (pc := 0) s2X7_nights_0 rfl (fun _ _ _ _ _ _ _ _ _ _ _ C h => zk_splL (h)))
noncomputable def s2X7_paid_0 : zSem := zo_splL 1 [(.negSucc 2147483647, .negSucc 0), (.ofNat 0, .ofNat 7), (.ofNat 8, .ofNat 2147483647)] (zo_loadA 1 0)
noncomputable def k2X7_paid : zCode := zrset kX7_paid 0 (some s2X7_paid_0)
noncomputable def m2X7_paid : zM := (yX7_paid, cX7_paid, 8, (some .int), 0, 0, k2X7_paid)
set_option maxRecDepth 100000 in
set_option maxHeartbeats 4000000 in
theorem ok2X7_paid {l : Launch} {D : va_G} {tys : List (ClassId × FieldType)} {o : zO} {z : Nat} (E : zEnv tys) : zCodeOk l D vwCl tys o z (zXX o z) zTs zprog m2X7_paid :=
  (zCode_set (okX7_paid E) (pc := 0) s2X7_paid_0 rfl (fun _ _ _ _ _ _ _ _ _ _ _ C h => zk_splL (h)))
noncomputable def s2X7_rests_0 : zSem := zo_splL 1 [(.negSucc 2147483647, .negSucc 0), (.ofNat 0, .ofNat 9), (.ofNat 10, .ofNat 2147483647)] (zo_splL 2 [(.negSucc 2147483647, .negSucc 0), (.ofNat 0, .ofNat 9), (.ofNat 10, .ofNat 2147483647)] (zo_loadI 1 1))
noncomputable def k2X7_rests : zCode := zrset kX7_rests 0 (some s2X7_rests_0)
noncomputable def m2X7_rests : zM := (yX7_rests, cX7_rests, 7, (some .int), 0, 0, k2X7_rests)
set_option maxRecDepth 100000 in
set_option maxHeartbeats 4000000 in
theorem ok2X7_rests {l : Launch} {D : va_G} {tys : List (ClassId × FieldType)} {o : zO} {z : Nat} (E : zEnv tys) : zCodeOk l D vwCl tys o z (zXX o z) zTs zprog m2X7_rests :=
  (zCode_set (okX7_rests E) (pc := 0) s2X7_rests_0 rfl (fun _ _ _ _ _ _ _ _ _ _ _ C h => zk_splL (zk_splL (h))))
noncomputable def s2X7_rider_0 : zSem := zo_splL 1 [(.negSucc 2147483647, .negSucc 0), (.ofNat 0, .ofNat 7), (.ofNat 8, .ofNat 2147483647)] (zo_splL 2 [(.negSucc 2147483647, .negSucc 0), (.ofNat 0, .ofNat 0), (.ofNat 1, .ofNat 1), (.ofNat 2, .ofNat 2), (.ofNat 3, .ofNat 3), (.ofNat 4, .ofNat 4), (.ofNat 5, .ofNat 5), (.ofNat 6, .ofNat 2147483647)] (zo_loadA 1 0))
noncomputable def s2X7_rider_29 : zSem := zo_splT [(.negSucc 2147483647, .negSucc 0), (.ofNat 0, .ofNat 0), (.ofNat 1, .ofNat 1), (.ofNat 2, .ofNat 2), (.ofNat 3, .ofNat 3), (.ofNat 4, .ofNat 4), (.ofNat 5, .ofNat 2147483647)] (zo_tab (.ofNat 0) [64, 74, 84, 94, 104] 121)
noncomputable def k2X7_rider : zCode := zrset (zrset kX7_rider 0 (some s2X7_rider_0)) 29 (some s2X7_rider_29)
noncomputable def m2X7_rider : zM := (yX7_rider, cX7_rider, 3, (some .int), 0, 0, k2X7_rider)
set_option maxRecDepth 100000 in
set_option maxHeartbeats 4000000 in
theorem ok2X7_rider {l : Launch} {D : va_G} {tys : List (ClassId × FieldType)} {o : zO} {z : Nat} (E : zEnv tys) : zCodeOk l D vwCl tys o z (zXX o z) zTs zprog m2X7_rider :=
  (zCode_set (zCode_set (okX7_rider E) (pc := 0) s2X7_rider_0 rfl (fun _ _ _ _ _ _ _ _ _ _ _ C h => zk_splL (zk_splL (h)))) (pc := 29) s2X7_rider_29 rfl (fun _ _ _ _ _ _ _ _ _ _ _ C h => zk_splT h))
noncomputable def s2X7_row_0 : zSem := zo_splL 1 [(.negSucc 2147483647, .negSucc 0), (.ofNat 0, .ofNat 15), (.ofNat 16, .ofNat 2147483647)] (zo_loadI 1 1)
noncomputable def k2X7_row : zCode := zrset kX7_row 0 (some s2X7_row_0)
noncomputable def m2X7_row : zM := (yX7_row, cX7_row, 2, (some .long), 0, 0, k2X7_row)
set_option maxRecDepth 100000 in
set_option maxHeartbeats 4000000 in
theorem ok2X7_row {l : Launch} {D : va_G} {tys : List (ClassId × FieldType)} {o : zO} {z : Nat} (E : zEnv tys) : zCodeOk l D vwCl tys o z (zXX o z) zTs zprog m2X7_row :=
  (zCode_set (okX7_row E) (pc := 0) s2X7_row_0 rfl (fun _ _ _ _ _ _ _ _ _ _ _ C h => zk_splL (h)))
noncomputable def s2X7_set_0 : zSem := zo_splL 1 [(.negSucc 2147483647, .negSucc 0), (.ofNat 0, .ofNat 0), (.ofNat 1, .ofNat 1), (.ofNat 2, .ofNat 2147483647)] (zo_splL 2 [(.negSucc 2147483647, .negSucc 0), (.ofNat 0, .ofNat 0), (.ofNat 1, .ofNat 8), (.ofNat 9, .ofNat 9), (.ofNat 10, .ofNat 2147483647)] (zo_push 1 (.inl ((.negSucc 0, .negSucc 0), none))))
noncomputable def k2X7_set : zCode := zrset kX7_set 0 (some s2X7_set_0)
noncomputable def m2X7_set : zM := (yX7_set, cX7_set, 4, (some .int), 0, 0, k2X7_set)
set_option maxRecDepth 100000 in
set_option maxHeartbeats 4000000 in
theorem ok2X7_set {l : Launch} {D : va_G} {tys : List (ClassId × FieldType)} {o : zO} {z : Nat} (E : zEnv tys) : zCodeOk l D vwCl tys o z (zXX o z) zTs zprog m2X7_set :=
  (zCode_set (okX7_set E) (pc := 0) s2X7_set_0 rfl (fun _ _ _ _ _ _ _ _ _ _ _ C h => zk_splL (zk_splL (h))))
noncomputable def s2X7_shared_0 : zSem := zo_splL 1 [(.negSucc 2147483647, .negSucc 0), (.ofNat 0, .ofNat 7), (.ofNat 8, .ofNat 2147483647)] (zo_splL 2 [(.negSucc 2147483647, .negSucc 0), (.ofNat 0, .ofNat 7), (.ofNat 8, .ofNat 2147483647)] (zo_loadA 1 0))
noncomputable def k2X7_shared : zCode := zrset kX7_shared 0 (some s2X7_shared_0)
noncomputable def m2X7_shared : zM := (yX7_shared, cX7_shared, 3, (some .int), 0, 0, k2X7_shared)
set_option maxRecDepth 100000 in
set_option maxHeartbeats 4000000 in
theorem ok2X7_shared {l : Launch} {D : va_G} {tys : List (ClassId × FieldType)} {o : zO} {z : Nat} (E : zEnv tys) : zCodeOk l D vwCl tys o z (zXX o z) zTs zprog m2X7_shared :=
  (zCode_set (okX7_shared E) (pc := 0) s2X7_shared_0 rfl (fun _ _ _ _ _ _ _ _ _ _ _ C h => zk_splL (zk_splL (h))))
noncomputable def s2X7_sheet_0 : zSem := zo_splL 1 [(.negSucc 2147483647, .negSucc 0), (.ofNat 0, .ofNat 0), (.ofNat 1, .ofNat 1), (.ofNat 2, .ofNat 2), (.ofNat 3, .ofNat 3), (.ofNat 4, .ofNat 2147483647)] (zo_splL 2 [(.negSucc 2147483647, .negSucc 0), (.ofNat 0, .ofNat 8), (.ofNat 9, .ofNat 2147483647)] (zo_loadI 1 1))
noncomputable def k2X7_sheet : zCode := zrset kX7_sheet 0 (some s2X7_sheet_0)
noncomputable def m2X7_sheet : zM := (yX7_sheet, cX7_sheet, 6, (some .int), 0, 0, k2X7_sheet)
set_option maxRecDepth 100000 in
set_option maxHeartbeats 4000000 in
theorem ok2X7_sheet {l : Launch} {D : va_G} {tys : List (ClassId × FieldType)} {o : zO} {z : Nat} (E : zEnv tys) : zCodeOk l D vwCl tys o z (zXX o z) zTs zprog m2X7_sheet :=
  (zCode_set (okX7_sheet E) (pc := 0) s2X7_sheet_0 rfl (fun _ _ _ _ _ _ _ _ _ _ _ C h => zk_splL (zk_splL (h))))
noncomputable def s2X7_spent_0 : zSem := zo_splL 1 [(.negSucc 2147483647, .negSucc 0), (.ofNat 0, .ofNat 999), (.ofNat 1000, .ofNat 2147483647)] (zo_loadI 1 1)
noncomputable def k2X7_spent : zCode := zrset kX7_spent 0 (some s2X7_spent_0)
noncomputable def m2X7_spent : zM := (yX7_spent, cX7_spent, 6, (some .int), 0, 0, k2X7_spent)
set_option maxRecDepth 100000 in
set_option maxHeartbeats 4000000 in
theorem ok2X7_spent {l : Launch} {D : va_G} {tys : List (ClassId × FieldType)} {o : zO} {z : Nat} (E : zEnv tys) : zCodeOk l D vwCl tys o z (zXX o z) zTs zprog m2X7_spent :=
  (zCode_set (okX7_spent E) (pc := 0) s2X7_spent_0 rfl (fun _ _ _ _ _ _ _ _ _ _ _ C h => zk_splL (h)))
noncomputable def s2X7_sure_0 : zSem := zo_splL 1 [(.negSucc 2147483647, .negSucc 0), (.ofNat 0, .ofNat 7), (.ofNat 8, .ofNat 2147483647)] (zo_splL 2 [(.negSucc 2147483647, .negSucc 0), (.ofNat 0, .ofNat 7), (.ofNat 8, .ofNat 2147483647)] (zo_loadI 1 1))
noncomputable def k2X7_sure : zCode := zrset kX7_sure 0 (some s2X7_sure_0)
noncomputable def m2X7_sure : zM := (yX7_sure, cX7_sure, 5, (some .int), 0, 0, k2X7_sure)
set_option maxRecDepth 100000 in
set_option maxHeartbeats 4000000 in
theorem ok2X7_sure {l : Launch} {D : va_G} {tys : List (ClassId × FieldType)} {o : zO} {z : Nat} (E : zEnv tys) : zCodeOk l D vwCl tys o z (zXX o z) zTs zprog m2X7_sure :=
  (zCode_set (okX7_sure E) (pc := 0) s2X7_sure_0 rfl (fun _ _ _ _ _ _ _ _ _ _ _ C h => zk_splL (zk_splL (h))))
noncomputable def s2X7_tellFraction_7 : zSem := zo_splL 5 [(.negSucc 9223372036854775807, .ofNat 0), (.ofNat 1, .ofNat 9223372036854775807)] (zo_loadL 9 5)
noncomputable def k2X7_tellFraction : zCode := zrset kX7_tellFraction 7 (some s2X7_tellFraction_7)
noncomputable def m2X7_tellFraction : zM := (yX7_tellFraction, cX7_tellFraction, 7, none, 0, 0, k2X7_tellFraction)
set_option maxRecDepth 100000 in
set_option maxHeartbeats 4000000 in
theorem ok2X7_tellFraction {l : Launch} {D : va_G} {tys : List (ClassId × FieldType)} {o : zO} {z : Nat} (E : zEnv tys) : zCodeOk l D vwCl tys o z (zXX o z) zTs zprog m2X7_tellFraction :=
  (zCode_set (okX7_tellFraction E) (pc := 7) s2X7_tellFraction_7 rfl (fun _ _ _ _ _ _ _ _ _ _ _ C h => zk_splL (h)))
noncomputable def s2X7_vigil_0 : zSem := zo_splL 1 [(.negSucc 2147483647, .negSucc 0), (.ofNat 0, .ofNat 60), (.ofNat 61, .ofNat 2147483647)] (zo_loadI 1 1)
noncomputable def k2X7_vigil : zCode := zrset kX7_vigil 0 (some s2X7_vigil_0)
noncomputable def m2X7_vigil : zM := (yX7_vigil, cX7_vigil, 6, (some .int), 0, 0, k2X7_vigil)
set_option maxRecDepth 100000 in
set_option maxHeartbeats 4000000 in
theorem ok2X7_vigil {l : Launch} {D : va_G} {tys : List (ClassId × FieldType)} {o : zO} {z : Nat} (E : zEnv tys) : zCodeOk l D vwCl tys o z (zXX o z) zTs zprog m2X7_vigil :=
  (zCode_set (okX7_vigil E) (pc := 0) s2X7_vigil_0 rfl (fun _ _ _ _ _ _ _ _ _ _ _ C h => zk_splL (h)))
noncomputable def s2X7_years_0 : zSem := zo_splL 2 [(.negSucc 2147483647, .ofNat 0), (.ofNat 1, .ofNat 60), (.ofNat 61, .ofNat 2147483647)] (zo_loadI 1 2)
noncomputable def k2X7_years : zCode := zrset kX7_years 0 (some s2X7_years_0)
noncomputable def m2X7_years : zM := (yX7_years, cX7_years, 4, (some .int), 0, 0, k2X7_years)
set_option maxRecDepth 100000 in
set_option maxHeartbeats 4000000 in
theorem ok2X7_years {l : Launch} {D : va_G} {tys : List (ClassId × FieldType)} {o : zO} {z : Nat} (E : zEnv tys) : zCodeOk l D vwCl tys o z (zXX o z) zTs zprog m2X7_years :=
  (zCode_set (okX7_years E) (pc := 0) s2X7_years_0 rfl (fun _ _ _ _ _ _ _ _ _ _ _ C h => zk_splL (h)))
noncomputable def s2X8_able_0 : zSem := zo_splL 1 [(.negSucc 2147483647, .negSucc 0), (.ofNat 0, .ofNat 7), (.ofNat 8, .ofNat 2147483647)] (zo_loadA 1 0)
noncomputable def k2X8_able : zCode := zrset kX8_able 0 (some s2X8_able_0)
noncomputable def m2X8_able : zM := (yX8_able, cX8_able, 6, (some .int), 0, 0, k2X8_able)
set_option maxRecDepth 100000 in
set_option maxHeartbeats 4000000 in
theorem ok2X8_able {l : Launch} {D : va_G} {tys : List (ClassId × FieldType)} {o : zO} {z : Nat} (E : zEnv tys) : zCodeOk l D vwCl tys o z (zXX o z) zTs zprog m2X8_able :=
  (zCode_set (okX8_able E) (pc := 0) s2X8_able_0 rfl (fun _ _ _ _ _ _ _ _ _ _ _ C h => zk_splL (h)))
noncomputable def s2X8_act_0 : zSem := zo_splL 2 [(.negSucc 2147483647, .negSucc 0), (.ofNat 0, .ofNat 7), (.ofNat 8, .ofNat 2147483647)] (zo_splL 3 [(.negSucc 2147483647, .negSucc 1), (.negSucc 0, .negSucc 0), (.ofNat 0, .ofNat 7), (.ofNat 8, .ofNat 2147483647)] (zo_loadI 1 1))
noncomputable def s2X8_act_1 : zSem := zo_splT [(.negSucc 2147483647, .ofNat 102), (.ofNat 103, .ofNat 103), (.ofNat 104, .ofNat 104), (.ofNat 105, .ofNat 105), (.ofNat 106, .ofNat 109), (.ofNat 110, .ofNat 110), (.ofNat 111, .ofNat 2147483647)] (zo_lsw [(.ofNat 103, 79), (.ofNat 105, 47), (.ofNat 110, 36)] 99)
noncomputable def k2X8_act : zCode := zrset (zrset kX8_act 0 (some s2X8_act_0)) 1 (some s2X8_act_1)
noncomputable def m2X8_act : zM := (yX8_act, cX8_act, 4, (some .boolean), 0, 0, k2X8_act)
set_option maxRecDepth 100000 in
set_option maxHeartbeats 4000000 in
theorem ok2X8_act {l : Launch} {D : va_G} {tys : List (ClassId × FieldType)} {o : zO} {z : Nat} (E : zEnv tys) : zCodeOk l D vwCl tys o z (zXX o z) zTs zprog m2X8_act :=
  (zCode_set (zCode_set (okX8_act E) (pc := 0) s2X8_act_0 rfl (fun _ _ _ _ _ _ _ _ _ _ _ C h => zk_splL (zk_splL (h)))) (pc := 1) s2X8_act_1 rfl (fun _ _ _ _ _ _ _ _ _ _ _ C h => zk_splT h))
noncomputable def s2X8_again_0 : zSem := zo_splL 1 [(.negSucc 2147483647, .negSucc 0), (.ofNat 0, .ofNat 0), (.ofNat 1, .ofNat 1), (.ofNat 2, .ofNat 2147483647)] (zo_loadA 1 0)
noncomputable def k2X8_again : zCode := zrset kX8_again 0 (some s2X8_again_0)
noncomputable def m2X8_again : zM := (yX8_again, cX8_again, 3, (some .boolean), 0, 0, k2X8_again)
set_option maxRecDepth 100000 in
set_option maxHeartbeats 4000000 in
theorem ok2X8_again {l : Launch} {D : va_G} {tys : List (ClassId × FieldType)} {o : zO} {z : Nat} (E : zEnv tys) : zCodeOk l D vwCl tys o z (zXX o z) zTs zprog m2X8_again :=
  (zCode_set (okX8_again E) (pc := 0) s2X8_again_0 rfl (fun _ _ _ _ _ _ _ _ _ _ _ C h => zk_splL (h)))
noncomputable def s2X8_count_0 : zSem := zo_splL 1 [(.negSucc 2147483647, .ofNat 19), (.ofNat 20, .ofNat 27), (.ofNat 28, .ofNat 2147483647)] (zo_loadA 1 0)
noncomputable def s2X8_count_27 : zSem := zo_splT [(.negSucc 2147483647, .negSucc 0), (.ofNat 0, .ofNat 0), (.ofNat 1, .ofNat 1), (.ofNat 2, .ofNat 2), (.ofNat 3, .ofNat 3), (.ofNat 4, .ofNat 4), (.ofNat 5, .ofNat 5), (.ofNat 6, .ofNat 6), (.ofNat 7, .ofNat 7), (.ofNat 8, .ofNat 8), (.ofNat 9, .ofNat 9), (.ofNat 10, .ofNat 10), (.ofNat 11, .ofNat 11), (.ofNat 12, .ofNat 2147483647)] (zo_tab (.ofNat 0) [88, 93, 98, 103, 112, 120, 128, 136, 145, 150, 155, 160] 165)
noncomputable def k2X8_count : zCode := zrset (zrset kX8_count 0 (some s2X8_count_0)) 27 (some s2X8_count_27)
noncomputable def m2X8_count : zM := (yX8_count, cX8_count, 2, (some .int), 0, 0, k2X8_count)
set_option maxRecDepth 100000 in
set_option maxHeartbeats 4000000 in
theorem ok2X8_count {l : Launch} {D : va_G} {tys : List (ClassId × FieldType)} {o : zO} {z : Nat} (E : zEnv tys) : zCodeOk l D vwCl tys o z (zXX o z) zTs zprog m2X8_count :=
  (zCode_set (zCode_set (okX8_count E) (pc := 0) s2X8_count_0 rfl (fun _ _ _ _ _ _ _ _ _ _ _ C h => zk_splL (h))) (pc := 27) s2X8_count_27 rfl (fun _ _ _ _ _ _ _ _ _ _ _ C h => zk_splT h))
noncomputable def s2X8_countWays_10 : zSem := zo_splH 0 [] 3 [(.negSucc 2147483647, .negSucc 0), (.ofNat 0, .ofNat 0), (.ofNat 1, .ofNat 1), (.ofNat 2, .ofNat 2), (.ofNat 3, .ofNat 3), (.ofNat 4, .ofNat 4), (.ofNat 5, .ofNat 5), (.ofNat 6, .ofNat 6), (.ofNat 7, .ofNat 7), (.ofNat 8, .ofNat 8), (.ofNat 9, .ofNat 2147483647)] (zo_loadA 11 0)
noncomputable def s2X8_countWays_22 : zSem := zo_i2 23 zj_or2
noncomputable def s2X8_countWays_69 : zSem := zo_i2 70 zj_or2
noncomputable def s2X8_countWays_108 : zSem := zo_and2 109
noncomputable def s2X8_countWays_118 : zSem := zo_splL 1 [(.negSucc 2147483647, .negSucc 0), (.ofNat 0, .ofNat 0), (.ofNat 1, .ofNat 1), (.ofNat 2, .ofNat 2), (.ofNat 3, .ofNat 3), (.ofNat 4, .ofNat 4), (.ofNat 5, .ofNat 5), (.ofNat 6, .ofNat 6), (.ofNat 7, .ofNat 7), (.ofNat 8, .ofNat 2147483647)] (zo_loadA 119 0)
noncomputable def s2X8_countWays_128 : zSem := zo_i2 129 zj_or2
noncomputable def s2X8_countWays_130 : zSem := zo_i2 131 zj_or2
noncomputable def s2X8_countWays_145 : zSem := zo_i2 146 zj_or2
noncomputable def s2X8_countWays_163 : zSem := zo_and2 164
noncomputable def s2X8_countWays_166 : zSem := zo_splL 4 [(.negSucc 2147483647, .negSucc 0), (.ofNat 0, .ofNat 0), (.ofNat 1, .ofNat 2147483647)] (zo_goto 113)
noncomputable def s2X8_countWays_186 : zSem := zo_and2 187
noncomputable def s2X8_countWays_188 : zSem := zo_splL 2 [(.negSucc 2147483647, .negSucc 0), (.ofNat 0, .ofNat 0), (.ofNat 1, .ofNat 2147483647)] (zo_goto 85)
noncomputable def k2X8_countWays : zCode := zrset (zrset (zrset (zrset (zrset (zrset (zrset (zrset (zrset (zrset (zrset (zrset kX8_countWays 10 (some s2X8_countWays_10)) 22 (some s2X8_countWays_22)) 69 (some s2X8_countWays_69)) 108 (some s2X8_countWays_108)) 118 (some s2X8_countWays_118)) 128 (some s2X8_countWays_128)) 130 (some s2X8_countWays_130)) 145 (some s2X8_countWays_145)) 163 (some s2X8_countWays_163)) 166 (some s2X8_countWays_166)) 186 (some s2X8_countWays_186)) 188 (some s2X8_countWays_188)
noncomputable def m2X8_countWays : zM := (yX8_countWays, cX8_countWays, 5, (some .int), 0, 0, k2X8_countWays)
set_option maxRecDepth 100000 in
set_option maxHeartbeats 4000000 in
theorem ok2X8_countWays {l : Launch} {D : va_G} {tys : List (ClassId × FieldType)} {o : zO} {z : Nat} (E : zEnv tys) : zCodeOk l D vwCl tys o z (zXX o z) zTs zprog m2X8_countWays :=
  (zCode_set (zCode_set (zCode_set (zCode_set (zCode_set (zCode_set (zCode_set (zCode_set (zCode_set (zCode_set (zCode_set (zCode_set (okX8_countWays E) (pc := 10) s2X8_countWays_10 rfl (fun _ _ _ _ _ _ _ _ _ _ _ C h => zk_splH (h))) (pc := 22) s2X8_countWays_22 rfl (fun _ _ _ _ _ _ _ _ _ _ _ C h => zqb_or2 C (zda zDX8_countWays 22 rfl rfl))) (pc := 69) s2X8_countWays_69 rfl (fun _ _ _ _ _ _ _ _ _ _ _ C h => zqb_or2 C (zda zDX8_countWays 69 rfl rfl))) (pc := 108) s2X8_countWays_108 rfl (fun _ _ _ _ _ _ _ _ _ _ _ C h => zqb_and2 C (zda zDX8_countWays 108 rfl rfl))) (pc := 118) s2X8_countWays_118 rfl (fun _ _ _ _ _ _ _ _ _ _ _ C h => zk_splL (h))) (pc := 128) s2X8_countWays_128 rfl (fun _ _ _ _ _ _ _ _ _ _ _ C h => zqb_or2 C (zda zDX8_countWays 128 rfl rfl))) (pc := 130) s2X8_countWays_130 rfl (fun _ _ _ _ _ _ _ _ _ _ _ C h => zqb_or2 C (zda zDX8_countWays 130 rfl rfl))) (pc := 145) s2X8_countWays_145 rfl (fun _ _ _ _ _ _ _ _ _ _ _ C h => zqb_or2 C (zda zDX8_countWays 145 rfl rfl))) (pc := 163) s2X8_countWays_163 rfl (fun _ _ _ _ _ _ _ _ _ _ _ C h => zqb_and2 C (zda zDX8_countWays 163 rfl rfl))) (pc := 166) s2X8_countWays_166 rfl (fun _ _ _ _ _ _ _ _ _ _ _ C h => zk_splL (h))) (pc := 186) s2X8_countWays_186 rfl (fun _ _ _ _ _ _ _ _ _ _ _ C h => zqb_and2 C (zda zDX8_countWays 186 rfl rfl))) (pc := 188) s2X8_countWays_188 rfl (fun _ _ _ _ _ _ _ _ _ _ _ C h => zk_splL (h)))
noncomputable def s2X8_end_0 : zSem := zo_splL 1 [(.negSucc 2147483647, .negSucc 0), (.ofNat 0, .ofNat 80), (.ofNat 81, .ofNat 2147483647)] (zo_loadA 1 0)
noncomputable def k2X8_end : zCode := zrset kX8_end 0 (some s2X8_end_0)
noncomputable def m2X8_end : zM := (yX8_end, cX8_end, 2, (some .boolean), 0, 0, k2X8_end)
set_option maxRecDepth 100000 in
set_option maxHeartbeats 4000000 in
theorem ok2X8_end {l : Launch} {D : va_G} {tys : List (ClassId × FieldType)} {o : zO} {z : Nat} (E : zEnv tys) : zCodeOk l D vwCl tys o z (zXX o z) zTs zprog m2X8_end :=
  (zCode_set (okX8_end E) (pc := 0) s2X8_end_0 rfl (fun _ _ _ _ _ _ _ _ _ _ _ C h => zk_splL (h)))
noncomputable def s2X8_fine_0 : zSem := zo_splH 0 [] 16 [(.negSucc 2147483647, .negSucc 1), (.negSucc 0, .negSucc 0), (.ofNat 0, .ofNat 2147483647)] (zo_loadA 1 0)
noncomputable def k2X8_fine : zCode := zrset kX8_fine 0 (some s2X8_fine_0)
noncomputable def m2X8_fine : zM := (yX8_fine, cX8_fine, 1, (some .boolean), 0, 0, k2X8_fine)
set_option maxRecDepth 100000 in
set_option maxHeartbeats 4000000 in
theorem ok2X8_fine {l : Launch} {D : va_G} {tys : List (ClassId × FieldType)} {o : zO} {z : Nat} (E : zEnv tys) : zCodeOk l D vwCl tys o z (zXX o z) zTs zprog m2X8_fine :=
  (zCode_set (okX8_fine E) (pc := 0) s2X8_fine_0 rfl (fun _ _ _ _ _ _ _ _ _ _ _ C h => zk_splH (h)))
noncomputable def s2X8_first_0 : zSem := zo_splL 1 [(.negSucc 2147483647, .ofNat 0), (.ofNat 1, .ofNat 60), (.ofNat 61, .ofNat 2147483647)] (zo_loadA 1 0)
noncomputable def k2X8_first : zCode := zrset kX8_first 0 (some s2X8_first_0)
noncomputable def m2X8_first : zM := (yX8_first, cX8_first, 3, (some .int), 0, 0, k2X8_first)
set_option maxRecDepth 100000 in
set_option maxHeartbeats 4000000 in
theorem ok2X8_first {l : Launch} {D : va_G} {tys : List (ClassId × FieldType)} {o : zO} {z : Nat} (E : zEnv tys) : zCodeOk l D vwCl tys o z (zXX o z) zTs zprog m2X8_first :=
  (zCode_set (okX8_first E) (pc := 0) s2X8_first_0 rfl (fun _ _ _ _ _ _ _ _ _ _ _ C h => zk_splL (h)))
noncomputable def s2X8_found_0 : zSem := zo_splL 1 [(.negSucc 2147483647, .negSucc 0), (.ofNat 0, .ofNat 7), (.ofNat 8, .ofNat 2147483647)] (zo_splL 2 [(.negSucc 2147483647, .negSucc 0), (.ofNat 0, .ofNat 7), (.ofNat 8, .ofNat 2147483647)] (zo_splL 3 [(.negSucc 2147483647, .negSucc 0), (.ofNat 0, .ofNat 1), (.ofNat 2, .ofNat 2147483647)] (zo_splH 0 [] 45 [(.negSucc 2147483647, .negSucc 0), (.ofNat 0, .ofNat 11), (.ofNat 12, .ofNat 12), (.ofNat 13, .ofNat 2147483647)] (zo_loadA 1 0))))
noncomputable def k2X8_found : zCode := zrset kX8_found 0 (some s2X8_found_0)
noncomputable def m2X8_found : zM := (yX8_found, cX8_found, 4, (some .int), 0, 0, k2X8_found)
set_option maxRecDepth 100000 in
set_option maxHeartbeats 4000000 in
theorem ok2X8_found {l : Launch} {D : va_G} {tys : List (ClassId × FieldType)} {o : zO} {z : Nat} (E : zEnv tys) : zCodeOk l D vwCl tys o z (zXX o z) zTs zprog m2X8_found :=
  (zCode_set (okX8_found E) (pc := 0) s2X8_found_0 rfl (fun _ _ _ _ _ _ _ _ _ _ _ C h => zk_splL (zk_splL (zk_splL (zk_splH (h))))))
noncomputable def s2X8_give_0 : zSem := zo_splL 1 [(.negSucc 2147483647, .negSucc 0), (.ofNat 0, .ofNat 7), (.ofNat 8, .ofNat 2147483647)] (zo_splL 2 [(.negSucc 2147483647, .negSucc 1), (.negSucc 0, .negSucc 0), (.ofNat 0, .ofNat 7), (.ofNat 8, .ofNat 2147483647)] (zo_loadA 1 0))
noncomputable def k2X8_give : zCode := zrset kX8_give 0 (some s2X8_give_0)
noncomputable def m2X8_give : zM := (yX8_give, cX8_give, 4, (some .int), 0, 0, k2X8_give)
set_option maxRecDepth 100000 in
set_option maxHeartbeats 4000000 in
theorem ok2X8_give {l : Launch} {D : va_G} {tys : List (ClassId × FieldType)} {o : zO} {z : Nat} (E : zEnv tys) : zCodeOk l D vwCl tys o z (zXX o z) zTs zprog m2X8_give :=
  (zCode_set (okX8_give E) (pc := 0) s2X8_give_0 rfl (fun _ _ _ _ _ _ _ _ _ _ _ C h => zk_splL (zk_splL (h))))
noncomputable def s2X8_hard_0 : zSem := zo_splL 1 [(.negSucc 2147483647, .negSucc 0), (.ofNat 0, .ofNat 7), (.ofNat 8, .ofNat 2147483647)] (zo_splL 2 [(.negSucc 2147483647, .negSucc 0), (.ofNat 0, .ofNat 7), (.ofNat 8, .ofNat 2147483647)] (zo_loadA 1 0))
noncomputable def k2X8_hard : zCode := zrset kX8_hard 0 (some s2X8_hard_0)
noncomputable def m2X8_hard : zM := (yX8_hard, cX8_hard, 3, (some .int), 0, 0, k2X8_hard)
set_option maxRecDepth 100000 in
set_option maxHeartbeats 4000000 in
theorem ok2X8_hard {l : Launch} {D : va_G} {tys : List (ClassId × FieldType)} {o : zO} {z : Nat} (E : zEnv tys) : zCodeOk l D vwCl tys o z (zXX o z) zTs zprog m2X8_hard :=
  (zCode_set (okX8_hard E) (pc := 0) s2X8_hard_0 rfl (fun _ _ _ _ _ _ _ _ _ _ _ C h => zk_splL (zk_splL (h))))
noncomputable def s2X8_hardOfRota_0 : zSem := zo_splH 0 [] 1 [(.negSucc 2147483647, .ofNat 0), (.ofNat 1, .ofNat 1), (.ofNat 2, .ofNat 2), (.ofNat 3, .ofNat 3), (.ofNat 4, .ofNat 4), (.ofNat 5, .ofNat 5), (.ofNat 6, .ofNat 6), (.ofNat 7, .ofNat 7), (.ofNat 8, .ofNat 8), (.ofNat 9, .ofNat 2147483647)] (zo_push 1 (.inl ((.ofNat 0, .ofNat 0), none)))
noncomputable def s2X8_hardOfRota_12 : zSem := zo_splA 0 [0] 2 [(.negSucc 2147483647, .negSucc 0), (.ofNat 0, .ofNat 2147483647)] (zo_loadI 13 1)
noncomputable def k2X8_hardOfRota : zCode := zrset (zrset kX8_hardOfRota 0 (some s2X8_hardOfRota_0)) 12 (some s2X8_hardOfRota_12)
noncomputable def m2X8_hardOfRota : zM := (yX8_hardOfRota, cX8_hardOfRota, 3, (some .int), 0, 0, k2X8_hardOfRota)
set_option maxRecDepth 100000 in
set_option maxHeartbeats 4000000 in
theorem ok2X8_hardOfRota {l : Launch} {D : va_G} {tys : List (ClassId × FieldType)} {o : zO} {z : Nat} (E : zEnv tys) : zCodeOk l D vwCl tys o z (zXX o z) zTs zprog m2X8_hardOfRota :=
  (zCode_set (zCode_set (okX8_hardOfRota E) (pc := 0) s2X8_hardOfRota_0 rfl (fun _ _ _ _ _ _ _ _ _ _ _ C h => zk_splH (h))) (pc := 12) s2X8_hardOfRota_12 rfl (fun _ _ _ _ _ _ _ _ _ _ _ C h => zk_splA (h)))
noncomputable def s2X8_held_0 : zSem := zo_splL 1 [(.negSucc 2147483647, .negSucc 0), (.ofNat 0, .ofNat 10), (.ofNat 11, .ofNat 2147483647)] (zo_loadA 1 0)
noncomputable def k2X8_held : zCode := zrset kX8_held 0 (some s2X8_held_0)
noncomputable def m2X8_held : zM := (yX8_held, cX8_held, 2, (some .int), 0, 0, k2X8_held)
set_option maxRecDepth 100000 in
set_option maxHeartbeats 4000000 in
theorem ok2X8_held {l : Launch} {D : va_G} {tys : List (ClassId × FieldType)} {o : zO} {z : Nat} (E : zEnv tys) : zCodeOk l D vwCl tys o z (zXX o z) zTs zprog m2X8_held :=
  (zCode_set (okX8_held E) (pc := 0) s2X8_held_0 rfl (fun _ _ _ _ _ _ _ _ _ _ _ C h => zk_splL (h)))
noncomputable def s2X8_here_0 : zSem := zo_splG 0 [] 15 (zbxF 0 [] 14 (.ofNat 0)) (zo_loadA 1 0)
noncomputable def k2X8_here : zCode := zrset kX8_here 0 (some s2X8_here_0)
noncomputable def m2X8_here : zM := (yX8_here, cX8_here, 1, (some .int), 0, 0, k2X8_here)
set_option maxRecDepth 100000 in
set_option maxHeartbeats 4000000 in
theorem ok2X8_here {l : Launch} {D : va_G} {tys : List (ClassId × FieldType)} {o : zO} {z : Nat} (E : zEnv tys) : zCodeOk l D vwCl tys o z (zXX o z) zTs zprog m2X8_here :=
  (zCode_set (okX8_here E) (pc := 0) s2X8_here_0 rfl (fun _ _ _ _ _ _ _ _ _ _ _ C h => zk_splG (h)))
noncomputable def s2X8_ill_0 : zSem := zo_splL 1 [(.negSucc 2147483647, .negSucc 0), (.ofNat 0, .ofNat 7), (.ofNat 8, .ofNat 2147483647)] (zo_loadA 1 0)
noncomputable def k2X8_ill : zCode := zrset kX8_ill 0 (some s2X8_ill_0)
noncomputable def m2X8_ill : zM := (yX8_ill, cX8_ill, 2, (some .int), 0, 0, k2X8_ill)
set_option maxRecDepth 100000 in
set_option maxHeartbeats 4000000 in
theorem ok2X8_ill {l : Launch} {D : va_G} {tys : List (ClassId × FieldType)} {o : zO} {z : Nat} (E : zEnv tys) : zCodeOk l D vwCl tys o z (zXX o z) zTs zprog m2X8_ill :=
  (zCode_set (okX8_ill E) (pc := 0) s2X8_ill_0 rfl (fun _ _ _ _ _ _ _ _ _ _ _ C h => zk_splL (h)))
noncomputable def s2X8_keep_0 : zSem := zo_splL 1 [(.negSucc 2147483647, .negSucc 0), (.ofNat 0, .ofNat 0), (.ofNat 1, .ofNat 1), (.ofNat 2, .ofNat 2147483647)] (zo_loadA 1 0)
noncomputable def k2X8_keep : zCode := zrset kX8_keep 0 (some s2X8_keep_0)
noncomputable def m2X8_keep : zM := (yX8_keep, cX8_keep, 2, (some .boolean), 0, 0, k2X8_keep)
set_option maxRecDepth 100000 in
set_option maxHeartbeats 4000000 in
theorem ok2X8_keep {l : Launch} {D : va_G} {tys : List (ClassId × FieldType)} {o : zO} {z : Nat} (E : zEnv tys) : zCodeOk l D vwCl tys o z (zXX o z) zTs zprog m2X8_keep :=
  (zCode_set (okX8_keep E) (pc := 0) s2X8_keep_0 rfl (fun _ _ _ _ _ _ _ _ _ _ _ C h => zk_splL (h)))
noncomputable def s2X8_keystone_0 : zSem := zo_splL 1 [(.negSucc 2147483647, .negSucc 0), (.ofNat 0, .ofNat 10), (.ofNat 11, .ofNat 2147483647)] (zo_loadA 1 0)
noncomputable def k2X8_keystone : zCode := zrset kX8_keystone 0 (some s2X8_keystone_0)
noncomputable def m2X8_keystone : zM := (yX8_keystone, cX8_keystone, 9, (some .int), 0, 0, k2X8_keystone)
set_option maxRecDepth 100000 in
set_option maxHeartbeats 4000000 in
theorem ok2X8_keystone {l : Launch} {D : va_G} {tys : List (ClassId × FieldType)} {o : zO} {z : Nat} (E : zEnv tys) : zCodeOk l D vwCl tys o z (zXX o z) zTs zprog m2X8_keystone :=
  (zCode_set (okX8_keystone E) (pc := 0) s2X8_keystone_0 rfl (fun _ _ _ _ _ _ _ _ _ _ _ C h => zk_splL (h)))
noncomputable def s2X8_later_0 : zSem := zo_splL 1 [(.negSucc 2147483647, .negSucc 0), (.ofNat 0, .ofNat 60), (.ofNat 61, .ofNat 2147483647)] (zo_loadA 1 0)
noncomputable def k2X8_later : zCode := zrset kX8_later 0 (some s2X8_later_0)
noncomputable def m2X8_later : zM := (yX8_later, cX8_later, 4, (some .int), 0, 0, k2X8_later)
set_option maxRecDepth 100000 in
set_option maxHeartbeats 4000000 in
theorem ok2X8_later {l : Launch} {D : va_G} {tys : List (ClassId × FieldType)} {o : zO} {z : Nat} (E : zEnv tys) : zCodeOk l D vwCl tys o z (zXX o z) zTs zprog m2X8_later :=
  (zCode_set (okX8_later E) (pc := 0) s2X8_later_0 rfl (fun _ _ _ _ _ _ _ _ _ _ _ C h => zk_splL (h)))
noncomputable def s2X8_law_0 : zSem := zo_splH 0 [] 8 [(.negSucc 2147483647, .negSucc 0), (.ofNat 0, .ofNat 0), (.ofNat 1, .ofNat 1), (.ofNat 2, .ofNat 2), (.ofNat 3, .ofNat 3), (.ofNat 4, .ofNat 4), (.ofNat 5, .ofNat 5), (.ofNat 6, .ofNat 6), (.ofNat 7, .ofNat 7), (.ofNat 8, .ofNat 8), (.ofNat 9, .ofNat 9), (.ofNat 10, .ofNat 10), (.ofNat 11, .ofNat 11), (.ofNat 12, .ofNat 12), (.ofNat 13, .ofNat 13), (.ofNat 14, .ofNat 14), (.ofNat 15, .ofNat 15), (.ofNat 16, .ofNat 16), (.ofNat 17, .ofNat 17), (.ofNat 18, .ofNat 18), (.ofNat 19, .ofNat 19), (.ofNat 20, .ofNat 20), (.ofNat 21, .ofNat 21), (.ofNat 22, .ofNat 22), (.ofNat 23, .ofNat 23), (.ofNat 24, .ofNat 24), (.ofNat 25, .ofNat 25), (.ofNat 26, .ofNat 26), (.ofNat 27, .ofNat 27), (.ofNat 28, .ofNat 28), (.ofNat 29, .ofNat 29), (.ofNat 30, .ofNat 30), (.ofNat 31, .ofNat 31), (.ofNat 32, .ofNat 32), (.ofNat 33, .ofNat 33), (.ofNat 34, .ofNat 34), (.ofNat 35, .ofNat 35), (.ofNat 36, .ofNat 36), (.ofNat 37, .ofNat 37), (.ofNat 38, .ofNat 38), (.ofNat 39, .ofNat 39), (.ofNat 40, .ofNat 40), (.ofNat 41, .ofNat 41), (.ofNat 42, .ofNat 42), (.ofNat 43, .ofNat 43), (.ofNat 44, .ofNat 44), (.ofNat 45, .ofNat 45), (.ofNat 46, .ofNat 46), (.ofNat 47, .ofNat 47), (.ofNat 48, .ofNat 48), (.ofNat 49, .ofNat 49), (.ofNat 50, .ofNat 50), (.ofNat 51, .ofNat 51), (.ofNat 52, .ofNat 52), (.ofNat 53, .ofNat 53), (.ofNat 54, .ofNat 54), (.ofNat 55, .ofNat 55), (.ofNat 56, .ofNat 56), (.ofNat 57, .ofNat 57), (.ofNat 58, .ofNat 58), (.ofNat 59, .ofNat 59), (.ofNat 60, .ofNat 60), (.ofNat 61, .ofNat 61), (.ofNat 62, .ofNat 62), (.ofNat 63, .ofNat 63), (.ofNat 64, .ofNat 64), (.ofNat 65, .ofNat 65), (.ofNat 66, .ofNat 66), (.ofNat 67, .ofNat 67), (.ofNat 68, .ofNat 68), (.ofNat 69, .ofNat 69), (.ofNat 70, .ofNat 70), (.ofNat 71, .ofNat 71), (.ofNat 72, .ofNat 72), (.ofNat 73, .ofNat 73), (.ofNat 74, .ofNat 74), (.ofNat 75, .ofNat 75), (.ofNat 76, .ofNat 76), (.ofNat 77, .ofNat 77), (.ofNat 78, .ofNat 78), (.ofNat 79, .ofNat 79), (.ofNat 80, .ofNat 80), (.ofNat 81, .ofNat 2147483647)] (zo_loadA 1 0)
noncomputable def k2X8_law : zCode := zrset kX8_law 0 (some s2X8_law_0)
noncomputable def m2X8_law : zM := (yX8_law, cX8_law, 6, (some .int), 0, 0, k2X8_law)
set_option maxRecDepth 100000 in
set_option maxHeartbeats 4000000 in
theorem ok2X8_law {l : Launch} {D : va_G} {tys : List (ClassId × FieldType)} {o : zO} {z : Nat} (E : zEnv tys) : zCodeOk l D vwCl tys o z (zXX o z) zTs zprog m2X8_law :=
  (zCode_set (okX8_law E) (pc := 0) s2X8_law_0 rfl (fun _ _ _ _ _ _ _ _ _ _ _ C h => zk_splH (h)))
noncomputable def s2X8_meets_0 : zSem := zo_splL 1 [(.negSucc 2147483647, .negSucc 0), (.ofNat 0, .ofNat 7), (.ofNat 8, .ofNat 2147483647)] (zo_splL 2 [(.negSucc 2147483647, .negSucc 0), (.ofNat 0, .ofNat 7), (.ofNat 8, .ofNat 2147483647)] (zo_splL 3 [(.negSucc 2147483647, .ofNat 1), (.ofNat 2, .ofNat 40), (.ofNat 41, .ofNat 2147483647)] (zo_loadA 1 0)))
noncomputable def k2X8_meets : zCode := zrset kX8_meets 0 (some s2X8_meets_0)
noncomputable def m2X8_meets : zM := (yX8_meets, cX8_meets, 7, (some .int), 0, 0, k2X8_meets)
set_option maxRecDepth 100000 in
set_option maxHeartbeats 4000000 in
theorem ok2X8_meets {l : Launch} {D : va_G} {tys : List (ClassId × FieldType)} {o : zO} {z : Nat} (E : zEnv tys) : zCodeOk l D vwCl tys o z (zXX o z) zTs zprog m2X8_meets :=
  (zCode_set (okX8_meets E) (pc := 0) s2X8_meets_0 rfl (fun _ _ _ _ _ _ _ _ _ _ _ C h => zk_splL (zk_splL (zk_splL (h)))))
noncomputable def s2X8_mended_0 : zSem := zo_splL 1 [(.negSucc 2147483647, .negSucc 0), (.ofNat 0, .ofNat 7), (.ofNat 8, .ofNat 2147483647)] (zo_loadA 1 0)
noncomputable def k2X8_mended : zCode := zrset kX8_mended 0 (some s2X8_mended_0)
noncomputable def m2X8_mended : zM := (yX8_mended, cX8_mended, 3, (some .int), 0, 0, k2X8_mended)
set_option maxRecDepth 100000 in
set_option maxHeartbeats 4000000 in
theorem ok2X8_mended {l : Launch} {D : va_G} {tys : List (ClassId × FieldType)} {o : zO} {z : Nat} (E : zEnv tys) : zCodeOk l D vwCl tys o z (zXX o z) zTs zprog m2X8_mended :=
  (zCode_set (okX8_mended E) (pc := 0) s2X8_mended_0 rfl (fun _ _ _ _ _ _ _ _ _ _ _ C h => zk_splL (h)))
noncomputable def s2X8_missed_0 : zSem := zo_splL 1 [(.negSucc 2147483647, .negSucc 0), (.ofNat 0, .ofNat 7), (.ofNat 8, .ofNat 2147483647)] (zo_loadA 1 0)
noncomputable def k2X8_missed : zCode := zrset kX8_missed 0 (some s2X8_missed_0)
noncomputable def m2X8_missed : zM := (yX8_missed, cX8_missed, 4, (some .int), 0, 0, k2X8_missed)
set_option maxRecDepth 100000 in
set_option maxHeartbeats 4000000 in
theorem ok2X8_missed {l : Launch} {D : va_G} {tys : List (ClassId × FieldType)} {o : zO} {z : Nat} (E : zEnv tys) : zCodeOk l D vwCl tys o z (zXX o z) zTs zprog m2X8_missed :=
  (zCode_set (okX8_missed E) (pc := 0) s2X8_missed_0 rfl (fun _ _ _ _ _ _ _ _ _ _ _ C h => zk_splL (h)))
noncomputable def s2X8_nights_0 : zSem := zo_splL 1 [(.negSucc 2147483647, .negSucc 0), (.ofNat 0, .ofNat 30), (.ofNat 31, .ofNat 2147483647)] (zo_loadA 1 0)
noncomputable def k2X8_nights : zCode := zrset kX8_nights 0 (some s2X8_nights_0)
noncomputable def m2X8_nights : zM := (yX8_nights, cX8_nights, 4, (some .int), 0, 0, k2X8_nights)
set_option maxRecDepth 100000 in
set_option maxHeartbeats 4000000 in
theorem ok2X8_nights {l : Launch} {D : va_G} {tys : List (ClassId × FieldType)} {o : zO} {z : Nat} (E : zEnv tys) : zCodeOk l D vwCl tys o z (zXX o z) zTs zprog m2X8_nights :=
  (zCode_set (okX8_nights E) (pc := 0) s2X8_nights_0 rfl (fun _ _ _ _ _ _ _ _ _ _ _ C h => zk_splL (h)))
noncomputable def s2X8_paid_0 : zSem := zo_splL 1 [(.negSucc 2147483647, .negSucc 0), (.ofNat 0, .ofNat 7), (.ofNat 8, .ofNat 2147483647)] (zo_loadA 1 0)
noncomputable def k2X8_paid : zCode := zrset kX8_paid 0 (some s2X8_paid_0)
noncomputable def m2X8_paid : zM := (yX8_paid, cX8_paid, 6, (some .int), 0, 0, k2X8_paid)
set_option maxRecDepth 100000 in
set_option maxHeartbeats 4000000 in
theorem ok2X8_paid {l : Launch} {D : va_G} {tys : List (ClassId × FieldType)} {o : zO} {z : Nat} (E : zEnv tys) : zCodeOk l D vwCl tys o z (zXX o z) zTs zprog m2X8_paid :=
  (zCode_set (okX8_paid E) (pc := 0) s2X8_paid_0 rfl (fun _ _ _ _ _ _ _ _ _ _ _ C h => zk_splL (h)))
noncomputable def s2X8_product_74 : zSem := zo_splL 4 [(.negSucc 2147483647, .negSucc 0), (.ofNat 0, .ofNat 0), (.ofNat 1, .ofNat 2147483647)] (zo_loadI 76 4)
noncomputable def k2X8_product : zCode := zrset kX8_product 74 (some s2X8_product_74)
noncomputable def m2X8_product : zM := (yX8_product, cX8_product, 5, (some .int), 0, 0, k2X8_product)
set_option maxRecDepth 100000 in
set_option maxHeartbeats 4000000 in
theorem ok2X8_product {l : Launch} {D : va_G} {tys : List (ClassId × FieldType)} {o : zO} {z : Nat} (E : zEnv tys) : zCodeOk l D vwCl tys o z (zXX o z) zTs zprog m2X8_product :=
  (zCode_set (okX8_product E) (pc := 74) s2X8_product_74 rfl (fun _ _ _ _ _ _ _ _ _ _ _ C h => zk_splL (h)))
noncomputable def s2X8_readMan_43 : zSem := zo_splH 0 [] 16 [(.negSucc 2147483647, .negSucc 1), (.negSucc 0, .negSucc 0), (.ofNat 0, .ofNat 2147483647)] (zo_stN 44 2)
noncomputable def s2X8_readMan_115 : zSem := zo_splH 0 [] 16 [(.negSucc 2147483647, .negSucc 1), (.negSucc 0, .negSucc 0), (.ofNat 0, .ofNat 2147483647)] (zo_goto 44)
noncomputable def k2X8_readMan : zCode := zrset (zrset kX8_readMan 43 (some s2X8_readMan_43)) 115 (some s2X8_readMan_115)
noncomputable def m2X8_readMan : zM := (yX8_readMan, cX8_readMan, 4, none, 0, 0, k2X8_readMan)
set_option maxRecDepth 100000 in
set_option maxHeartbeats 4000000 in
theorem ok2X8_readMan {l : Launch} {D : va_G} {tys : List (ClassId × FieldType)} {o : zO} {z : Nat} (E : zEnv tys) : zCodeOk l D vwCl tys o z (zXX o z) zTs zprog m2X8_readMan :=
  (zCode_set (zCode_set (okX8_readMan E) (pc := 43) s2X8_readMan_43 rfl (fun _ _ _ _ _ _ _ _ _ _ _ C h => zk_splH (h))) (pc := 115) s2X8_readMan_115 rfl (fun _ _ _ _ _ _ _ _ _ _ _ C h => zk_splH (h)))
noncomputable def s2X8_remember_0 : zSem := zo_splH 0 [] 24 [(.negSucc 2147483647, .negSucc 0), (.ofNat 0, .ofNat 0), (.ofNat 1, .ofNat 1), (.ofNat 2, .ofNat 2), (.ofNat 3, .ofNat 3), (.ofNat 4, .ofNat 4), (.ofNat 5, .ofNat 5), (.ofNat 6, .ofNat 6), (.ofNat 7, .ofNat 7), (.ofNat 8, .ofNat 8), (.ofNat 9, .ofNat 9), (.ofNat 10, .ofNat 10), (.ofNat 11, .ofNat 11), (.ofNat 12, .ofNat 12), (.ofNat 13, .ofNat 2147483647)] (zo_loadA 1 0)
noncomputable def k2X8_remember : zCode := zrset kX8_remember 0 (some s2X8_remember_0)
noncomputable def m2X8_remember : zM := (yX8_remember, cX8_remember, 3, none, 0, 0, k2X8_remember)
set_option maxRecDepth 100000 in
set_option maxHeartbeats 4000000 in
theorem ok2X8_remember {l : Launch} {D : va_G} {tys : List (ClassId × FieldType)} {o : zO} {z : Nat} (E : zEnv tys) : zCodeOk l D vwCl tys o z (zXX o z) zTs zprog m2X8_remember :=
  (zCode_set (okX8_remember E) (pc := 0) s2X8_remember_0 rfl (fun _ _ _ _ _ _ _ _ _ _ _ C h => zk_splH (h)))
noncomputable def s2X8_rests_0 : zSem := zo_splL 1 [(.negSucc 2147483647, .negSucc 0), (.ofNat 0, .ofNat 9), (.ofNat 10, .ofNat 2147483647)] (zo_splL 2 [(.negSucc 2147483647, .negSucc 0), (.ofNat 0, .ofNat 9), (.ofNat 10, .ofNat 2147483647)] (zo_loadA 1 0))
noncomputable def k2X8_rests : zCode := zrset kX8_rests 0 (some s2X8_rests_0)
noncomputable def m2X8_rests : zM := (yX8_rests, cX8_rests, 7, (some .int), 0, 0, k2X8_rests)
set_option maxRecDepth 100000 in
set_option maxHeartbeats 4000000 in
theorem ok2X8_rests {l : Launch} {D : va_G} {tys : List (ClassId × FieldType)} {o : zO} {z : Nat} (E : zEnv tys) : zCodeOk l D vwCl tys o z (zXX o z) zTs zprog m2X8_rests :=
  (zCode_set (okX8_rests E) (pc := 0) s2X8_rests_0 rfl (fun _ _ _ _ _ _ _ _ _ _ _ C h => zk_splL (zk_splL (h))))
noncomputable def s2X8_rider_0 : zSem := zo_splL 1 [(.negSucc 2147483647, .negSucc 0), (.ofNat 0, .ofNat 7), (.ofNat 8, .ofNat 2147483647)] (zo_splL 2 [(.negSucc 2147483647, .negSucc 0), (.ofNat 0, .ofNat 0), (.ofNat 1, .ofNat 1), (.ofNat 2, .ofNat 2), (.ofNat 3, .ofNat 3), (.ofNat 4, .ofNat 4), (.ofNat 5, .ofNat 5), (.ofNat 6, .ofNat 2147483647)] (zo_loadA 1 0))
noncomputable def s2X8_rider_28 : zSem := zo_splT [(.negSucc 2147483647, .negSucc 0), (.ofNat 0, .ofNat 0), (.ofNat 1, .ofNat 1), (.ofNat 2, .ofNat 2), (.ofNat 3, .ofNat 3), (.ofNat 4, .ofNat 4), (.ofNat 5, .ofNat 2147483647)] (zo_tab (.ofNat 0) [64, 71, 78, 85, 95] 105)
noncomputable def k2X8_rider : zCode := zrset (zrset kX8_rider 0 (some s2X8_rider_0)) 28 (some s2X8_rider_28)
noncomputable def m2X8_rider : zM := (yX8_rider, cX8_rider, 3, (some .int), 0, 0, k2X8_rider)
set_option maxRecDepth 100000 in
set_option maxHeartbeats 4000000 in
theorem ok2X8_rider {l : Launch} {D : va_G} {tys : List (ClassId × FieldType)} {o : zO} {z : Nat} (E : zEnv tys) : zCodeOk l D vwCl tys o z (zXX o z) zTs zprog m2X8_rider :=
  (zCode_set (zCode_set (okX8_rider E) (pc := 0) s2X8_rider_0 rfl (fun _ _ _ _ _ _ _ _ _ _ _ C h => zk_splL (zk_splL (h)))) (pc := 28) s2X8_rider_28 rfl (fun _ _ _ _ _ _ _ _ _ _ _ C h => zk_splT h))
noncomputable def s2X8_riders_0 : zSem := zo_splH 0 [] 3 [(.negSucc 2147483647, .negSucc 0), (.ofNat 0, .ofNat 0), (.ofNat 1, .ofNat 1), (.ofNat 2, .ofNat 2), (.ofNat 3, .ofNat 3), (.ofNat 4, .ofNat 4), (.ofNat 5, .ofNat 5), (.ofNat 6, .ofNat 6), (.ofNat 7, .ofNat 7), (.ofNat 8, .ofNat 8), (.ofNat 9, .ofNat 2147483647)] (zo_loadA 1 0)
noncomputable def k2X8_riders : zCode := zrset kX8_riders 0 (some s2X8_riders_0)
noncomputable def m2X8_riders : zM := (yX8_riders, cX8_riders, 4, (some .int), 0, 0, k2X8_riders)
set_option maxRecDepth 100000 in
set_option maxHeartbeats 4000000 in
theorem ok2X8_riders {l : Launch} {D : va_G} {tys : List (ClassId × FieldType)} {o : zO} {z : Nat} (E : zEnv tys) : zCodeOk l D vwCl tys o z (zXX o z) zTs zprog m2X8_riders :=
  (zCode_set (okX8_riders E) (pc := 0) s2X8_riders_0 rfl (fun _ _ _ _ _ _ _ _ _ _ _ C h => zk_splH (h)))
noncomputable def s2X8_rota_0 : zSem := zo_splH 0 [] 1 [(.negSucc 2147483647, .ofNat 0), (.ofNat 1, .ofNat 1), (.ofNat 2, .ofNat 2), (.ofNat 3, .ofNat 3), (.ofNat 4, .ofNat 4), (.ofNat 5, .ofNat 5), (.ofNat 6, .ofNat 6), (.ofNat 7, .ofNat 7), (.ofNat 8, .ofNat 8), (.ofNat 9, .ofNat 2147483647)] (zo_loadA 1 0)
noncomputable def s2X8_rota_30 : zSem := zo_splG 0 [] 13 (zbxF 0 [] 15 (.ofNat 1)) (zo_splA 0 [7] 1 [(.negSucc 127, .negSucc 0), (.ofNat 0, .ofNat 44), (.ofNat 45, .ofNat 45), (.ofNat 46, .ofNat 47), (.ofNat 48, .ofNat 55), (.ofNat 56, .ofNat 57), (.ofNat 58, .ofNat 127)] (zo_loadA 31 0))
noncomputable def k2X8_rota : zCode := zrset (zrset kX8_rota 0 (some s2X8_rota_0)) 30 (some s2X8_rota_30)
noncomputable def m2X8_rota : zM := (yX8_rota, cX8_rota, 3, (some .int), 0, 0, k2X8_rota)
set_option maxRecDepth 100000 in
set_option maxHeartbeats 4000000 in
theorem ok2X8_rota {l : Launch} {D : va_G} {tys : List (ClassId × FieldType)} {o : zO} {z : Nat} (E : zEnv tys) : zCodeOk l D vwCl tys o z (zXX o z) zTs zprog m2X8_rota :=
  (zCode_set (zCode_set (okX8_rota E) (pc := 0) s2X8_rota_0 rfl (fun _ _ _ _ _ _ _ _ _ _ _ C h => zk_splH (h))) (pc := 30) s2X8_rota_30 rfl (fun _ _ _ _ _ _ _ _ _ _ _ C h => zk_splG (zk_splA (h))))
noncomputable def s2X8_row_0 : zSem := zo_splL 1 [(.negSucc 2147483647, .negSucc 0), (.ofNat 0, .ofNat 15), (.ofNat 16, .ofNat 2147483647)] (zo_loadA 1 0)
noncomputable def k2X8_row : zCode := zrset kX8_row 0 (some s2X8_row_0)
noncomputable def m2X8_row : zM := (yX8_row, cX8_row, 2, (some .long), 0, 0, k2X8_row)
set_option maxRecDepth 100000 in
set_option maxHeartbeats 4000000 in
theorem ok2X8_row {l : Launch} {D : va_G} {tys : List (ClassId × FieldType)} {o : zO} {z : Nat} (E : zEnv tys) : zCodeOk l D vwCl tys o z (zXX o z) zTs zprog m2X8_row :=
  (zCode_set (okX8_row E) (pc := 0) s2X8_row_0 rfl (fun _ _ _ _ _ _ _ _ _ _ _ C h => zk_splL (h)))
noncomputable def s2X8_rule_0 : zSem := zo_splH 0 [] 8 [(.negSucc 2147483647, .negSucc 0), (.ofNat 0, .ofNat 0), (.ofNat 1, .ofNat 1), (.ofNat 2, .ofNat 2), (.ofNat 3, .ofNat 3), (.ofNat 4, .ofNat 4), (.ofNat 5, .ofNat 5), (.ofNat 6, .ofNat 6), (.ofNat 7, .ofNat 7), (.ofNat 8, .ofNat 8), (.ofNat 9, .ofNat 9), (.ofNat 10, .ofNat 10), (.ofNat 11, .ofNat 11), (.ofNat 12, .ofNat 12), (.ofNat 13, .ofNat 13), (.ofNat 14, .ofNat 14), (.ofNat 15, .ofNat 15), (.ofNat 16, .ofNat 16), (.ofNat 17, .ofNat 17), (.ofNat 18, .ofNat 18), (.ofNat 19, .ofNat 19), (.ofNat 20, .ofNat 20), (.ofNat 21, .ofNat 21), (.ofNat 22, .ofNat 22), (.ofNat 23, .ofNat 23), (.ofNat 24, .ofNat 24), (.ofNat 25, .ofNat 25), (.ofNat 26, .ofNat 26), (.ofNat 27, .ofNat 27), (.ofNat 28, .ofNat 28), (.ofNat 29, .ofNat 29), (.ofNat 30, .ofNat 30), (.ofNat 31, .ofNat 31), (.ofNat 32, .ofNat 32), (.ofNat 33, .ofNat 33), (.ofNat 34, .ofNat 34), (.ofNat 35, .ofNat 35), (.ofNat 36, .ofNat 36), (.ofNat 37, .ofNat 37), (.ofNat 38, .ofNat 38), (.ofNat 39, .ofNat 39), (.ofNat 40, .ofNat 40), (.ofNat 41, .ofNat 41), (.ofNat 42, .ofNat 42), (.ofNat 43, .ofNat 43), (.ofNat 44, .ofNat 44), (.ofNat 45, .ofNat 45), (.ofNat 46, .ofNat 46), (.ofNat 47, .ofNat 47), (.ofNat 48, .ofNat 48), (.ofNat 49, .ofNat 49), (.ofNat 50, .ofNat 50), (.ofNat 51, .ofNat 51), (.ofNat 52, .ofNat 52), (.ofNat 53, .ofNat 53), (.ofNat 54, .ofNat 54), (.ofNat 55, .ofNat 55), (.ofNat 56, .ofNat 56), (.ofNat 57, .ofNat 57), (.ofNat 58, .ofNat 58), (.ofNat 59, .ofNat 59), (.ofNat 60, .ofNat 60), (.ofNat 61, .ofNat 61), (.ofNat 62, .ofNat 62), (.ofNat 63, .ofNat 63), (.ofNat 64, .ofNat 64), (.ofNat 65, .ofNat 65), (.ofNat 66, .ofNat 66), (.ofNat 67, .ofNat 67), (.ofNat 68, .ofNat 68), (.ofNat 69, .ofNat 69), (.ofNat 70, .ofNat 70), (.ofNat 71, .ofNat 71), (.ofNat 72, .ofNat 72), (.ofNat 73, .ofNat 73), (.ofNat 74, .ofNat 74), (.ofNat 75, .ofNat 75), (.ofNat 76, .ofNat 76), (.ofNat 77, .ofNat 77), (.ofNat 78, .ofNat 78), (.ofNat 79, .ofNat 79), (.ofNat 80, .ofNat 80), (.ofNat 81, .ofNat 2147483647)] (zo_loadA 1 0)
noncomputable def k2X8_rule : zCode := zrset kX8_rule 0 (some s2X8_rule_0)
noncomputable def m2X8_rule : zM := (yX8_rule, cX8_rule, 3, (some .int), 0, 0, k2X8_rule)
set_option maxRecDepth 100000 in
set_option maxHeartbeats 4000000 in
theorem ok2X8_rule {l : Launch} {D : va_G} {tys : List (ClassId × FieldType)} {o : zO} {z : Nat} (E : zEnv tys) : zCodeOk l D vwCl tys o z (zXX o z) zTs zprog m2X8_rule :=
  (zCode_set (okX8_rule E) (pc := 0) s2X8_rule_0 rfl (fun _ _ _ _ _ _ _ _ _ _ _ C h => zk_splH (h)))
noncomputable def s2X8_set_0 : zSem := zo_splL 1 [(.negSucc 2147483647, .negSucc 0), (.ofNat 0, .ofNat 0), (.ofNat 1, .ofNat 1), (.ofNat 2, .ofNat 2147483647)] (zo_splL 2 [(.negSucc 2147483647, .negSucc 0), (.ofNat 0, .ofNat 0), (.ofNat 1, .ofNat 8), (.ofNat 9, .ofNat 9), (.ofNat 10, .ofNat 2147483647)] (zo_loadA 1 0))
noncomputable def k2X8_set : zCode := zrset kX8_set 0 (some s2X8_set_0)
noncomputable def m2X8_set : zM := (yX8_set, cX8_set, 4, (some .int), 0, 0, k2X8_set)
set_option maxRecDepth 100000 in
set_option maxHeartbeats 4000000 in
theorem ok2X8_set {l : Launch} {D : va_G} {tys : List (ClassId × FieldType)} {o : zO} {z : Nat} (E : zEnv tys) : zCodeOk l D vwCl tys o z (zXX o z) zTs zprog m2X8_set :=
  (zCode_set (okX8_set E) (pc := 0) s2X8_set_0 rfl (fun _ _ _ _ _ _ _ _ _ _ _ C h => zk_splL (zk_splL (h))))
noncomputable def s2X8_shared_0 : zSem := zo_splL 1 [(.negSucc 2147483647, .negSucc 0), (.ofNat 0, .ofNat 7), (.ofNat 8, .ofNat 2147483647)] (zo_splL 2 [(.negSucc 2147483647, .negSucc 0), (.ofNat 0, .ofNat 7), (.ofNat 8, .ofNat 2147483647)] (zo_loadA 1 0))
noncomputable def k2X8_shared : zCode := zrset kX8_shared 0 (some s2X8_shared_0)
noncomputable def m2X8_shared : zM := (yX8_shared, cX8_shared, 3, (some .int), 0, 0, k2X8_shared)
set_option maxRecDepth 100000 in
set_option maxHeartbeats 4000000 in
theorem ok2X8_shared {l : Launch} {D : va_G} {tys : List (ClassId × FieldType)} {o : zO} {z : Nat} (E : zEnv tys) : zCodeOk l D vwCl tys o z (zXX o z) zTs zprog m2X8_shared :=
  (zCode_set (okX8_shared E) (pc := 0) s2X8_shared_0 rfl (fun _ _ _ _ _ _ _ _ _ _ _ C h => zk_splL (zk_splL (h))))
noncomputable def s2X8_sheet_0 : zSem := zo_splL 1 [(.negSucc 2147483647, .negSucc 0), (.ofNat 0, .ofNat 0), (.ofNat 1, .ofNat 1), (.ofNat 2, .ofNat 2), (.ofNat 3, .ofNat 3), (.ofNat 4, .ofNat 2147483647)] (zo_splL 2 [(.negSucc 2147483647, .negSucc 0), (.ofNat 0, .ofNat 8), (.ofNat 9, .ofNat 2147483647)] (zo_loadA 1 0))
noncomputable def k2X8_sheet : zCode := zrset kX8_sheet 0 (some s2X8_sheet_0)
noncomputable def m2X8_sheet : zM := (yX8_sheet, cX8_sheet, 9, (some .int), 0, 0, k2X8_sheet)
set_option maxRecDepth 100000 in
set_option maxHeartbeats 4000000 in
theorem ok2X8_sheet {l : Launch} {D : va_G} {tys : List (ClassId × FieldType)} {o : zO} {z : Nat} (E : zEnv tys) : zCodeOk l D vwCl tys o z (zXX o z) zTs zprog m2X8_sheet :=
  (zCode_set (okX8_sheet E) (pc := 0) s2X8_sheet_0 rfl (fun _ _ _ _ _ _ _ _ _ _ _ C h => zk_splL (zk_splL (h))))
noncomputable def s2X8_sign_1 : zSem := zo_splH 0 [] 8 [(.negSucc 2147483647, .negSucc 0), (.ofNat 0, .ofNat 76), (.ofNat 77, .ofNat 2147483647)] (zo_push 2 (.inl ((.ofNat 0, .ofNat 0), none)))
noncomputable def k2X8_sign : zCode := zrset kX8_sign 1 (some s2X8_sign_1)
noncomputable def m2X8_sign : zM := (yX8_sign, cX8_sign, 3, (some .int), 0, 0, k2X8_sign)
set_option maxRecDepth 100000 in
set_option maxHeartbeats 4000000 in
theorem ok2X8_sign {l : Launch} {D : va_G} {tys : List (ClassId × FieldType)} {o : zO} {z : Nat} (E : zEnv tys) : zCodeOk l D vwCl tys o z (zXX o z) zTs zprog m2X8_sign :=
  (zCode_set (okX8_sign E) (pc := 1) s2X8_sign_1 rfl (fun _ _ _ _ _ _ _ _ _ _ _ C h => zk_splH (h)))
noncomputable def s2X8_smoothest_0 : zSem := zo_splH 0 [] 1 [(.negSucc 2147483647, .ofNat 0), (.ofNat 1, .ofNat 1), (.ofNat 2, .ofNat 2), (.ofNat 3, .ofNat 3), (.ofNat 4, .ofNat 4), (.ofNat 5, .ofNat 5), (.ofNat 6, .ofNat 6), (.ofNat 7, .ofNat 7), (.ofNat 8, .ofNat 8), (.ofNat 9, .ofNat 2147483647)] (zo_loadA 1 0)
noncomputable def k2X8_smoothest : zCode := zrset kX8_smoothest 0 (some s2X8_smoothest_0)
noncomputable def m2X8_smoothest : zM := (yX8_smoothest, cX8_smoothest, 2, (some .int), 0, 0, k2X8_smoothest)
set_option maxRecDepth 100000 in
set_option maxHeartbeats 4000000 in
theorem ok2X8_smoothest {l : Launch} {D : va_G} {tys : List (ClassId × FieldType)} {o : zO} {z : Nat} (E : zEnv tys) : zCodeOk l D vwCl tys o z (zXX o z) zTs zprog m2X8_smoothest :=
  (zCode_set (okX8_smoothest E) (pc := 0) s2X8_smoothest_0 rfl (fun _ _ _ _ _ _ _ _ _ _ _ C h => zk_splH (h)))
noncomputable def s2X8_solve_10 : zSem := zo_splH 0 [] 3 [(.negSucc 2147483647, .negSucc 0), (.ofNat 0, .ofNat 0), (.ofNat 1, .ofNat 1), (.ofNat 2, .ofNat 2), (.ofNat 3, .ofNat 3), (.ofNat 4, .ofNat 4), (.ofNat 5, .ofNat 5), (.ofNat 6, .ofNat 6), (.ofNat 7, .ofNat 7), (.ofNat 8, .ofNat 8), (.ofNat 9, .ofNat 2147483647)] (zo_loadA 11 0)
noncomputable def s2X8_solve_22 : zSem := zo_i2 23 zj_or2
noncomputable def s2X8_solve_70 : zSem := zo_i2 71 zj_or2
noncomputable def s2X8_solve_119 : zSem := zo_and2 120
noncomputable def s2X8_solve_131 : zSem := zo_splL 2 [(.negSucc 2147483647, .negSucc 0), (.ofNat 0, .ofNat 0), (.ofNat 1, .ofNat 1), (.ofNat 2, .ofNat 2), (.ofNat 3, .ofNat 3), (.ofNat 4, .ofNat 4), (.ofNat 5, .ofNat 5), (.ofNat 6, .ofNat 6), (.ofNat 7, .ofNat 7), (.ofNat 8, .ofNat 2147483647)] (zo_loadA 132 0)
noncomputable def s2X8_solve_143 : zSem := zo_i2 144 zj_or2
noncomputable def s2X8_solve_164 : zSem := zo_i2 165 zj_or2
noncomputable def s2X8_solve_166 : zSem := zo_i2 167 zj_or2
noncomputable def s2X8_solve_177 : zSem := zo_i2 178 zj_or2
noncomputable def s2X8_solve_179 : zSem := zo_i2 180 zj_or2
noncomputable def s2X8_solve_205 : zSem := zo_and2 206
noncomputable def s2X8_solve_208 : zSem := zo_splL 6 [(.negSucc 2147483647, .negSucc 0), (.ofNat 0, .ofNat 0), (.ofNat 1, .ofNat 2147483647)] (zo_goto 126)
noncomputable def s2X8_solve_228 : zSem := zo_and2 229
noncomputable def s2X8_solve_230 : zSem := zo_splL 3 [(.negSucc 2147483647, .negSucc 0), (.ofNat 0, .ofNat 0), (.ofNat 1, .ofNat 2147483647)] (zo_goto 87)
noncomputable def k2X8_solve : zCode := zrset (zrset (zrset (zrset (zrset (zrset (zrset (zrset (zrset (zrset (zrset (zrset (zrset (zrset kX8_solve 10 (some s2X8_solve_10)) 22 (some s2X8_solve_22)) 70 (some s2X8_solve_70)) 119 (some s2X8_solve_119)) 131 (some s2X8_solve_131)) 143 (some s2X8_solve_143)) 164 (some s2X8_solve_164)) 166 (some s2X8_solve_166)) 177 (some s2X8_solve_177)) 179 (some s2X8_solve_179)) 205 (some s2X8_solve_205)) 208 (some s2X8_solve_208)) 228 (some s2X8_solve_228)) 230 (some s2X8_solve_230)
noncomputable def m2X8_solve : zM := (yX8_solve, cX8_solve, 8, (some .int), 0, 0, k2X8_solve)
set_option maxRecDepth 100000 in
set_option maxHeartbeats 4000000 in
theorem ok2X8_solve {l : Launch} {D : va_G} {tys : List (ClassId × FieldType)} {o : zO} {z : Nat} (E : zEnv tys) : zCodeOk l D vwCl tys o z (zXX o z) zTs zprog m2X8_solve :=
  (zCode_set (zCode_set (zCode_set (zCode_set (zCode_set (zCode_set (zCode_set (zCode_set (zCode_set (zCode_set (zCode_set (zCode_set (zCode_set (zCode_set (okX8_solve E) (pc := 10) s2X8_solve_10 rfl (fun _ _ _ _ _ _ _ _ _ _ _ C h => zk_splH (h))) (pc := 22) s2X8_solve_22 rfl (fun _ _ _ _ _ _ _ _ _ _ _ C h => zqb_or2 C (zda zDX8_solve 22 rfl rfl))) (pc := 70) s2X8_solve_70 rfl (fun _ _ _ _ _ _ _ _ _ _ _ C h => zqb_or2 C (zda zDX8_solve 70 rfl rfl))) (pc := 119) s2X8_solve_119 rfl (fun _ _ _ _ _ _ _ _ _ _ _ C h => zqb_and2 C (zda zDX8_solve 119 rfl rfl))) (pc := 131) s2X8_solve_131 rfl (fun _ _ _ _ _ _ _ _ _ _ _ C h => zk_splL (h))) (pc := 143) s2X8_solve_143 rfl (fun _ _ _ _ _ _ _ _ _ _ _ C h => zqb_or2 C (zda zDX8_solve 143 rfl rfl))) (pc := 164) s2X8_solve_164 rfl (fun _ _ _ _ _ _ _ _ _ _ _ C h => zqb_or2 C (zda zDX8_solve 164 rfl rfl))) (pc := 166) s2X8_solve_166 rfl (fun _ _ _ _ _ _ _ _ _ _ _ C h => zqb_or2 C (zda zDX8_solve 166 rfl rfl))) (pc := 177) s2X8_solve_177 rfl (fun _ _ _ _ _ _ _ _ _ _ _ C h => zqb_or2 C (zda zDX8_solve 177 rfl rfl))) (pc := 179) s2X8_solve_179 rfl (fun _ _ _ _ _ _ _ _ _ _ _ C h => zqb_or2 C (zda zDX8_solve 179 rfl rfl))) (pc := 205) s2X8_solve_205 rfl (fun _ _ _ _ _ _ _ _ _ _ _ C h => zqb_and2 C (zda zDX8_solve 205 rfl rfl))) (pc := 208) s2X8_solve_208 rfl (fun _ _ _ _ _ _ _ _ _ _ _ C h => zk_splL (h))) (pc := 228) s2X8_solve_228 rfl (fun _ _ _ _ _ _ _ _ _ _ _ C h => zqb_and2 C (zda zDX8_solve 228 rfl rfl))) (pc := 230) s2X8_solve_230 rfl (fun _ _ _ _ _ _ _ _ _ _ _ C h => zk_splL (h)))
noncomputable def s2X8_spent_0 : zSem := zo_splL 1 [(.negSucc 2147483647, .negSucc 0), (.ofNat 0, .ofNat 999), (.ofNat 1000, .ofNat 2147483647)] (zo_loadA 1 0)
noncomputable def k2X8_spent : zCode := zrset kX8_spent 0 (some s2X8_spent_0)
noncomputable def m2X8_spent : zM := (yX8_spent, cX8_spent, 6, (some .int), 0, 0, k2X8_spent)
set_option maxRecDepth 100000 in
set_option maxHeartbeats 4000000 in
theorem ok2X8_spent {l : Launch} {D : va_G} {tys : List (ClassId × FieldType)} {o : zO} {z : Nat} (E : zEnv tys) : zCodeOk l D vwCl tys o z (zXX o z) zTs zprog m2X8_spent :=
  (zCode_set (okX8_spent E) (pc := 0) s2X8_spent_0 rfl (fun _ _ _ _ _ _ _ _ _ _ _ C h => zk_splL (h)))
noncomputable def s2X8_sure_0 : zSem := zo_splL 1 [(.negSucc 2147483647, .negSucc 0), (.ofNat 0, .ofNat 7), (.ofNat 8, .ofNat 2147483647)] (zo_splL 2 [(.negSucc 2147483647, .negSucc 0), (.ofNat 0, .ofNat 7), (.ofNat 8, .ofNat 2147483647)] (zo_loadA 1 0))
noncomputable def s2X8_sure_36 : zSem := zo_splL 3 [(.negSucc 2147483647, .negSucc 0), (.ofNat 0, .ofNat 0), (.ofNat 1, .ofNat 2147483647)] (zo_loadI 37 3)
noncomputable def k2X8_sure : zCode := zrset (zrset kX8_sure 0 (some s2X8_sure_0)) 36 (some s2X8_sure_36)
noncomputable def m2X8_sure : zM := (yX8_sure, cX8_sure, 5, (some .int), 0, 0, k2X8_sure)
set_option maxRecDepth 100000 in
set_option maxHeartbeats 4000000 in
theorem ok2X8_sure {l : Launch} {D : va_G} {tys : List (ClassId × FieldType)} {o : zO} {z : Nat} (E : zEnv tys) : zCodeOk l D vwCl tys o z (zXX o z) zTs zprog m2X8_sure :=
  (zCode_set (zCode_set (okX8_sure E) (pc := 0) s2X8_sure_0 rfl (fun _ _ _ _ _ _ _ _ _ _ _ C h => zk_splL (zk_splL (h)))) (pc := 36) s2X8_sure_36 rfl (fun _ _ _ _ _ _ _ _ _ _ _ C h => zk_splL (h)))
noncomputable def s2X8_tellLine_0 : zSem := zo_splH 0 [] 1 [(.negSucc 2147483647, .ofNat 0), (.ofNat 1, .ofNat 1), (.ofNat 2, .ofNat 2), (.ofNat 3, .ofNat 3), (.ofNat 4, .ofNat 4), (.ofNat 5, .ofNat 5), (.ofNat 6, .ofNat 6), (.ofNat 7, .ofNat 7), (.ofNat 8, .ofNat 8), (.ofNat 9, .ofNat 2147483647)] (zo_loadA 1 0)
noncomputable def k2X8_tellLine : zCode := zrset kX8_tellLine 0 (some s2X8_tellLine_0)
noncomputable def m2X8_tellLine : zM := (yX8_tellLine, cX8_tellLine, 2, none, 0, 0, k2X8_tellLine)
set_option maxRecDepth 100000 in
set_option maxHeartbeats 4000000 in
theorem ok2X8_tellLine {l : Launch} {D : va_G} {tys : List (ClassId × FieldType)} {o : zO} {z : Nat} (E : zEnv tys) : zCodeOk l D vwCl tys o z (zXX o z) zTs zprog m2X8_tellLine :=
  (zCode_set (okX8_tellLine E) (pc := 0) s2X8_tellLine_0 rfl (fun _ _ _ _ _ _ _ _ _ _ _ C h => zk_splH (h)))
noncomputable def s2X8_thing_84 : zSem := zo_splL 2 [(.negSucc 2147483647, .ofNat 98), (.ofNat 99, .ofNat 99), (.ofNat 100, .ofNat 103), (.ofNat 104, .ofNat 104), (.ofNat 105, .ofNat 105), (.ofNat 106, .ofNat 108), (.ofNat 109, .ofNat 109), (.ofNat 110, .ofNat 110), (.ofNat 111, .ofNat 115), (.ofNat 116, .ofNat 116), (.ofNat 117, .ofNat 118), (.ofNat 119, .ofNat 119), (.ofNat 120, .ofNat 2147483647)] (zo_loadI 85 2)
noncomputable def k2X8_thing : zCode := zrset kX8_thing 84 (some s2X8_thing_84)
noncomputable def m2X8_thing : zM := (yX8_thing, cX8_thing, 4, (some .int), 0, 0, k2X8_thing)
set_option maxRecDepth 100000 in
set_option maxHeartbeats 4000000 in
theorem ok2X8_thing {l : Launch} {D : va_G} {tys : List (ClassId × FieldType)} {o : zO} {z : Nat} (E : zEnv tys) : zCodeOk l D vwCl tys o z (zXX o z) zTs zprog m2X8_thing :=
  (zCode_set (okX8_thing E) (pc := 84) s2X8_thing_84 rfl (fun _ _ _ _ _ _ _ _ _ _ _ C h => zk_splL (h)))
noncomputable def s2X8_undo_0 : zSem := zo_splH 0 [] 24 [(.negSucc 2147483647, .negSucc 0), (.ofNat 0, .ofNat 0), (.ofNat 1, .ofNat 1), (.ofNat 2, .ofNat 2), (.ofNat 3, .ofNat 3), (.ofNat 4, .ofNat 4), (.ofNat 5, .ofNat 5), (.ofNat 6, .ofNat 6), (.ofNat 7, .ofNat 7), (.ofNat 8, .ofNat 8), (.ofNat 9, .ofNat 9), (.ofNat 10, .ofNat 10), (.ofNat 11, .ofNat 11), (.ofNat 12, .ofNat 12), (.ofNat 13, .ofNat 2147483647)] (zo_loadA 1 0)
noncomputable def k2X8_undo : zCode := zrset kX8_undo 0 (some s2X8_undo_0)
noncomputable def m2X8_undo : zM := (yX8_undo, cX8_undo, 2, (some .int), 0, 0, k2X8_undo)
set_option maxRecDepth 100000 in
set_option maxHeartbeats 4000000 in
theorem ok2X8_undo {l : Launch} {D : va_G} {tys : List (ClassId × FieldType)} {o : zO} {z : Nat} (E : zEnv tys) : zCodeOk l D vwCl tys o z (zXX o z) zTs zprog m2X8_undo :=
  (zCode_set (okX8_undo E) (pc := 0) s2X8_undo_0 rfl (fun _ _ _ _ _ _ _ _ _ _ _ C h => zk_splH (h)))
noncomputable def s2X8_vigil_0 : zSem := zo_splL 1 [(.negSucc 2147483647, .negSucc 0), (.ofNat 0, .ofNat 60), (.ofNat 61, .ofNat 2147483647)] (zo_loadA 1 0)
noncomputable def k2X8_vigil : zCode := zrset kX8_vigil 0 (some s2X8_vigil_0)
noncomputable def m2X8_vigil : zM := (yX8_vigil, cX8_vigil, 6, (some .int), 0, 0, k2X8_vigil)
set_option maxRecDepth 100000 in
set_option maxHeartbeats 4000000 in
theorem ok2X8_vigil {l : Launch} {D : va_G} {tys : List (ClassId × FieldType)} {o : zO} {z : Nat} (E : zEnv tys) : zCodeOk l D vwCl tys o z (zXX o z) zTs zprog m2X8_vigil :=
  (zCode_set (okX8_vigil E) (pc := 0) s2X8_vigil_0 rfl (fun _ _ _ _ _ _ _ _ _ _ _ C h => zk_splL (h)))
noncomputable def s2X8_years_0 : zSem := zo_splL 2 [(.negSucc 2147483647, .ofNat 0), (.ofNat 1, .ofNat 60), (.ofNat 61, .ofNat 2147483647)] (zo_splH 0 [] 3 [(.negSucc 2147483647, .ofNat 0), (.ofNat 1, .ofNat 2147483647)] (zo_loadA 1 0))
noncomputable def k2X8_years : zCode := zrset kX8_years 0 (some s2X8_years_0)
noncomputable def m2X8_years : zM := (yX8_years, cX8_years, 6, (some .int), 0, 0, k2X8_years)
set_option maxRecDepth 100000 in
set_option maxHeartbeats 4000000 in
theorem ok2X8_years {l : Launch} {D : va_G} {tys : List (ClassId × FieldType)} {o : zO} {z : Nat} (E : zEnv tys) : zCodeOk l D vwCl tys o z (zXX o z) zTs zprog m2X8_years :=
  (zCode_set (okX8_years E) (pc := 0) s2X8_years_0 rfl (fun _ _ _ _ _ _ _ _ _ _ _ C h => zk_splL (zk_splH (h))))
noncomputable def zprog2 : List zM := [mJ0_charAt_5068e, mJ0_checkBoundsBeginEnd_23922, mJ0_checkIndex_df160, mJ0_coder_7d493, mJ0_indexOf_0f7a4, mJ0_indexOf_7cf53, mJ0_isLatin1_aae02, mJ0_length_8abf5, mJ1_canEncode_9a6ad, mJ1_charAt_3b067, mJ1_indexOfChar_4cfef, mJ1_indexOf_4cfef, mJ3_checkFromToIndex_8c36e, mJ3_checkIndex_8e157, m2J6_bitCount_0f7a4, mJ6_numberOfTrailingZeros_0f7a4, mJ7_fill_53178, mJ7_fill_d0a16, mX0_areTwo, mX0_differ, mX0_hardBy, mX0_has, mX0_init, m2X0_isAble, mX0_isSomebodyOrNobody, m2X0_pass, mX0_passAll, m2X0_readRiders, mX0_takeHour, mX0_takeMost, mX0_takeSign, mX0_takeWidth, m2X0_watch, m2X1_add, mX1_at, mX1_clear, mX1_init, mX1_tell, mX1_tell_, mX2_clear, mX2_init, m2X2_pop, m2X2_push, m2X3_await, mX3_begin, m2X3_binding, m2X3_closeBracket, m2X3_emit, mX3_init, m2X3_openBracket, mX3_push, mX3_read, mX3_readFirst, m2X3_reckon, m2X3_reckonDownTo, mX3_takeBehindThing, m2X3_takeDigitMore, mX3_takeThing, m2X3_value, m2X4_addLeast, m2X4_addLeastMost, mX4_addStep, m2X4_addWays, mX4_bar, mX4_canHold, mX4_charge, mX4_findLacks, mX4_findLacksIn, mX4_holdTo, mX4_init, mX4_lacks, mX4_least, mX4_leastMost, mX4_mostIn, mX4_open, mX4_orderByWidth, mX4_price, mX4_priceOf, mX4_riderIn, mX4_seat, mX4_tallyAll, m2X4_tallyRider, mX4_ways, m2X4_waysRound, mX4_weigh, mX5_copy, mX5_hoursOf, mX5_init, mX5_isIll, mX5_mostTired, mX5_tiredOfAll, mX5_turnIll, m2X6_add, mX6_at, mX6_cut, mX6_empty, mX6_init, m2X7_able, m2X7_act, m2X7_actExchange, m2X7_actGive, m2X7_actIll, m2X7_actSigns, m2X7_again, mX7_ask, mX7_away, mX7_bare, mX7_between, mX7_chance, m2X7_changes, m2X7_count, m2X7_draw, mX7_drawAct, mX7_easiest, mX7_easiestWithout, m2X7_end, mX7_entry, mX7_fairest, mX7_fewest, m2X7_first, mX7_fits, mX7_forget, mX7_forgetKept, m2X7_found, mX7_gaps, mX7_gapsByTrade, m2X7_give, m2X7_greatestShared, m2X7_hard, mX7_hardNow, m2X7_hardOfRota, mX7_hardestOf, m2X7_held, m2X7_ill, mX7_init, mX7_isAtRest, mX7_isDigit, mX7_isHour, m2X7_keep, m2X7_keystone, m2X7_later, mX7_law, mX7_leastHard, m2X7_lowest, m2X7_meets, m2X7_mended, m2X7_missed, m2X7_nights, mX7_openFitting, mX7_openSeats, m2X7_paid, mX7_power, mX7_priceByDifference, mX7_priceByHard, mX7_priceByName, mX7_readSpare, m2X7_rests, m2X7_rider, mX7_riders, mX7_rota, mX7_rotaFault, mX7_rotas, m2X7_row, mX7_rule, m2X7_set, m2X7_shared, m2X7_sheet, mX7_sign, mX7_smoothest, m2X7_spent, m2X7_sure, mX7_takeRota, mX7_takes, m2X7_tellFraction, mX7_tellRota, mX7_tellWays, mX7_thin, mX7_trade, mX7_undo, m2X7_vigil, mX7_wellOnes, mX7_year, mX7_yearFault, m2X7_years, m2X8_able, mX8_ableMany, m2X8_act, m2X8_again, mX8_areRight, mX8_areTwo, mX8_ask, mX8_away, mX8_bare, mX8_begin, mX8_beginText, mX8_bringMay, mX8_canTake, mX8_changes, mX8_common, mX8_costOf, m2X8_count, m2X8_countWays, mX8_draw, mX8_easiest, mX8_easiestBut, m2X8_end, mX8_fairest, mX8_fault, mX8_fewest, m2X8_fine, m2X8_first, mX8_firstGets, mX8_fits, mX8_fitting, mX8_fix, mX8_forget, m2X8_found, mX8_gaps, m2X8_give, mX8_goExchange, mX8_goNight, mX8_goNights, mX8_goSmooth, m2X8_hard, mX8_hardBy, mX8_hardOf, m2X8_hardOfRota, mX8_has, m2X8_held, mX8_heldBy, mX8_heldParts, m2X8_here, mX8_hoursOf, m2X8_ill, mX8_illBits, mX8_in, mX8_init, mX8_isGift, mX8_isHour, mX8_isMan, mX8_isRest, m2X8_keep, mX8_keepMay, m2X8_keystone, m2X8_later, m2X8_law, mX8_lay, mX8_layCanBe, mX8_layFound, mX8_layLine, mX8_layMay, mX8_letterOf, mX8_lost, m2X8_meets, m2X8_mended, m2X8_missed, mX8_need, mX8_night, m2X8_nights, mX8_number, mX8_oneOf, mX8_otherGets, m2X8_paid, mX8_passes, mX8_power, m2X8_product, mX8_readAct, m2X8_readMan, mX8_readRule, m2X8_remember, m2X8_rests, m2X8_rider, m2X8_riders, m2X8_rota, mX8_rotas, m2X8_row, m2X8_rule, m2X8_set, m2X8_shared, m2X8_sheet, m2X8_sign, m2X8_smoothest, m2X8_solve, m2X8_spent, mX8_sum, m2X8_sure, mX8_takes, mX8_tell, m2X8_tellLine, mX8_tellPart, mX8_tellWays, mX8_thin, m2X8_thing, mX8_tired, mX8_trade, m2X8_undo, m2X8_vigil, mX8_wasRight, mX8_well, mX8_year, m2X8_years]
noncomputable def zlkc (l : List (Nat × zCode)) (i : Nat) : Option zCode := List.rec (motive := fun _ => Option zCode) none (fun a _ ih => match Nat.beq a.1 i with
  | true => some a.2
  | false => ih) l
noncomputable def zov2 : Nat → Option zCode := zlkc [(14, k2J6_bitCount_0f7a4), (23, k2X0_isAble), (25, k2X0_pass), (27, k2X0_readRiders), (32, k2X0_watch), (33, k2X1_add), (41, k2X2_pop), (42, k2X2_push), (43, k2X3_await), (45, k2X3_binding), (46, k2X3_closeBracket), (47, k2X3_emit), (49, k2X3_openBracket), (53, k2X3_reckon), (54, k2X3_reckonDownTo), (56, k2X3_takeDigitMore), (58, k2X3_value), (59, k2X4_addLeast), (60, k2X4_addLeastMost), (62, k2X4_addWays), (81, k2X4_tallyRider), (83, k2X4_waysRound), (92, k2X6_add), (97, k2X7_able), (98, k2X7_act), (99, k2X7_actExchange), (100, k2X7_actGive), (101, k2X7_actIll), (102, k2X7_actSigns), (103, k2X7_again), (109, k2X7_changes), (110, k2X7_count), (111, k2X7_draw), (115, k2X7_end), (119, k2X7_first), (123, k2X7_found), (126, k2X7_give), (127, k2X7_greatestShared), (128, k2X7_hard), (130, k2X7_hardOfRota), (132, k2X7_held), (133, k2X7_ill), (138, k2X7_keep), (139, k2X7_keystone), (140, k2X7_later), (143, k2X7_lowest), (144, k2X7_meets), (145, k2X7_mended), (146, k2X7_missed), (147, k2X7_nights), (150, k2X7_paid), (156, k2X7_rests), (157, k2X7_rider), (162, k2X7_row), (164, k2X7_set), (165, k2X7_shared), (166, k2X7_sheet), (169, k2X7_spent), (170, k2X7_sure), (173, k2X7_tellFraction), (179, k2X7_vigil), (183, k2X7_years), (184, k2X8_able), (186, k2X8_act), (187, k2X8_again), (200, k2X8_count), (201, k2X8_countWays), (205, k2X8_end), (209, k2X8_fine), (210, k2X8_first), (216, k2X8_found), (218, k2X8_give), (223, k2X8_hard), (226, k2X8_hardOfRota), (228, k2X8_held), (231, k2X8_here), (233, k2X8_ill), (241, k2X8_keep), (243, k2X8_keystone), (244, k2X8_later), (245, k2X8_law), (253, k2X8_meets), (254, k2X8_mended), (255, k2X8_missed), (258, k2X8_nights), (262, k2X8_paid), (265, k2X8_product), (267, k2X8_readMan), (269, k2X8_remember), (270, k2X8_rests), (271, k2X8_rider), (272, k2X8_riders), (273, k2X8_rota), (275, k2X8_row), (276, k2X8_rule), (277, k2X8_set), (278, k2X8_shared), (279, k2X8_sheet), (280, k2X8_sign), (281, k2X8_smoothest), (282, k2X8_solve), (283, k2X8_spent), (285, k2X8_sure), (288, k2X8_tellLine), (292, k2X8_thing), (295, k2X8_undo), (296, k2X8_vigil), (300, k2X8_years)]
set_option maxRecDepth 100000 in
theorem zprog2_eq : zprog2 = zovr zov2 zprog 0 := rfl
theorem zc2 {l : Launch} {D : va_G} {tys : List (ClassId × FieldType)} {o : zO} {z : Nat} {mr : zM} (h : zCodeOk l D vwCl tys o z (zXX o z) zTs zprog mr) : zCodeOk l D vwCl tys o z (zXX o z) zTs zprog2 mr := by
  rw [zprog2_eq]
  exact zCode_hd h
set_option maxRecDepth 100000 in
theorem zprog2_all {l : Launch} {D : va_G} {tys : List (ClassId × FieldType)} {o : zO} {z : Nat} (E : zEnv tys) : ∀ mr ∈ zprog2, plainName mr.1.cls = true ∧ zCodeOk l D vwCl tys o z (zXX o z) zTs zprog2 mr := by
  show ∀ mr ∈ [mJ0_charAt_5068e, mJ0_checkBoundsBeginEnd_23922, mJ0_checkIndex_df160, mJ0_coder_7d493, mJ0_indexOf_0f7a4, mJ0_indexOf_7cf53, mJ0_isLatin1_aae02, mJ0_length_8abf5, mJ1_canEncode_9a6ad, mJ1_charAt_3b067, mJ1_indexOfChar_4cfef, mJ1_indexOf_4cfef, mJ3_checkFromToIndex_8c36e, mJ3_checkIndex_8e157, m2J6_bitCount_0f7a4, mJ6_numberOfTrailingZeros_0f7a4, mJ7_fill_53178, mJ7_fill_d0a16, mX0_areTwo, mX0_differ, mX0_hardBy, mX0_has, mX0_init, m2X0_isAble, mX0_isSomebodyOrNobody, m2X0_pass, mX0_passAll, m2X0_readRiders, mX0_takeHour, mX0_takeMost, mX0_takeSign, mX0_takeWidth, m2X0_watch, m2X1_add, mX1_at, mX1_clear, mX1_init, mX1_tell, mX1_tell_, mX2_clear, mX2_init, m2X2_pop, m2X2_push, m2X3_await, mX3_begin, m2X3_binding, m2X3_closeBracket, m2X3_emit, mX3_init, m2X3_openBracket, mX3_push, mX3_read, mX3_readFirst, m2X3_reckon, m2X3_reckonDownTo, mX3_takeBehindThing, m2X3_takeDigitMore, mX3_takeThing, m2X3_value, m2X4_addLeast, m2X4_addLeastMost, mX4_addStep, m2X4_addWays, mX4_bar, mX4_canHold, mX4_charge, mX4_findLacks, mX4_findLacksIn, mX4_holdTo, mX4_init, mX4_lacks, mX4_least, mX4_leastMost, mX4_mostIn, mX4_open, mX4_orderByWidth, mX4_price, mX4_priceOf, mX4_riderIn, mX4_seat, mX4_tallyAll, m2X4_tallyRider, mX4_ways, m2X4_waysRound, mX4_weigh, mX5_copy, mX5_hoursOf, mX5_init, mX5_isIll, mX5_mostTired, mX5_tiredOfAll, mX5_turnIll, m2X6_add, mX6_at, mX6_cut, mX6_empty, mX6_init, m2X7_able, m2X7_act, m2X7_actExchange, m2X7_actGive, m2X7_actIll, m2X7_actSigns, m2X7_again, mX7_ask, mX7_away, mX7_bare, mX7_between, mX7_chance, m2X7_changes, m2X7_count, m2X7_draw, mX7_drawAct, mX7_easiest, mX7_easiestWithout, m2X7_end, mX7_entry, mX7_fairest, mX7_fewest, m2X7_first, mX7_fits, mX7_forget, mX7_forgetKept, m2X7_found, mX7_gaps, mX7_gapsByTrade, m2X7_give, m2X7_greatestShared, m2X7_hard, mX7_hardNow, m2X7_hardOfRota, mX7_hardestOf, m2X7_held, m2X7_ill, mX7_init, mX7_isAtRest, mX7_isDigit, mX7_isHour, m2X7_keep, m2X7_keystone, m2X7_later, mX7_law, mX7_leastHard, m2X7_lowest, m2X7_meets, m2X7_mended, m2X7_missed, m2X7_nights, mX7_openFitting, mX7_openSeats, m2X7_paid, mX7_power, mX7_priceByDifference, mX7_priceByHard, mX7_priceByName, mX7_readSpare, m2X7_rests, m2X7_rider, mX7_riders, mX7_rota, mX7_rotaFault, mX7_rotas, m2X7_row, mX7_rule, m2X7_set, m2X7_shared, m2X7_sheet, mX7_sign, mX7_smoothest, m2X7_spent, m2X7_sure, mX7_takeRota, mX7_takes, m2X7_tellFraction, mX7_tellRota, mX7_tellWays, mX7_thin, mX7_trade, mX7_undo, m2X7_vigil, mX7_wellOnes, mX7_year, mX7_yearFault, m2X7_years, m2X8_able, mX8_ableMany, m2X8_act, m2X8_again, mX8_areRight, mX8_areTwo, mX8_ask, mX8_away, mX8_bare, mX8_begin, mX8_beginText, mX8_bringMay, mX8_canTake, mX8_changes, mX8_common, mX8_costOf, m2X8_count, m2X8_countWays, mX8_draw, mX8_easiest, mX8_easiestBut, m2X8_end, mX8_fairest, mX8_fault, mX8_fewest, m2X8_fine, m2X8_first, mX8_firstGets, mX8_fits, mX8_fitting, mX8_fix, mX8_forget, m2X8_found, mX8_gaps, m2X8_give, mX8_goExchange, mX8_goNight, mX8_goNights, mX8_goSmooth, m2X8_hard, mX8_hardBy, mX8_hardOf, m2X8_hardOfRota, mX8_has, m2X8_held, mX8_heldBy, mX8_heldParts, m2X8_here, mX8_hoursOf, m2X8_ill, mX8_illBits, mX8_in, mX8_init, mX8_isGift, mX8_isHour, mX8_isMan, mX8_isRest, m2X8_keep, mX8_keepMay, m2X8_keystone, m2X8_later, m2X8_law, mX8_lay, mX8_layCanBe, mX8_layFound, mX8_layLine, mX8_layMay, mX8_letterOf, mX8_lost, m2X8_meets, m2X8_mended, m2X8_missed, mX8_need, mX8_night, m2X8_nights, mX8_number, mX8_oneOf, mX8_otherGets, m2X8_paid, mX8_passes, mX8_power, m2X8_product, mX8_readAct, m2X8_readMan, mX8_readRule, m2X8_remember, m2X8_rests, m2X8_rider, m2X8_riders, m2X8_rota, mX8_rotas, m2X8_row, m2X8_rule, m2X8_set, m2X8_shared, m2X8_sheet, m2X8_sign, m2X8_smoothest, m2X8_solve, m2X8_spent, mX8_sum, m2X8_sure, mX8_takes, mX8_tell, m2X8_tellLine, mX8_tellPart, mX8_tellWays, mX8_thin, m2X8_thing, mX8_tired, mX8_trade, m2X8_undo, m2X8_vigil, mX8_wasRight, mX8_well, mX8_year, m2X8_years], _
  exact List.forall_mem_cons.mpr ⟨⟨by decide, zc2 (okJ0_charAt_5068e E)⟩,
  List.forall_mem_cons.mpr ⟨⟨by decide, zc2 (okJ0_checkBoundsBeginEnd_23922 E)⟩,
  List.forall_mem_cons.mpr ⟨⟨by decide, zc2 (okJ0_checkIndex_df160 E)⟩,
  List.forall_mem_cons.mpr ⟨⟨by decide, zc2 (okJ0_coder_7d493 E)⟩,
  List.forall_mem_cons.mpr ⟨⟨by decide, zc2 (okJ0_indexOf_0f7a4 E)⟩,
  List.forall_mem_cons.mpr ⟨⟨by decide, zc2 (okJ0_indexOf_7cf53 E)⟩,
  List.forall_mem_cons.mpr ⟨⟨by decide, zc2 (okJ0_isLatin1_aae02 E)⟩,
  List.forall_mem_cons.mpr ⟨⟨by decide, zc2 (okJ0_length_8abf5 E)⟩,
  List.forall_mem_cons.mpr ⟨⟨by decide, zc2 (okJ1_canEncode_9a6ad E)⟩,
  List.forall_mem_cons.mpr ⟨⟨by decide, zc2 (okJ1_charAt_3b067 E)⟩,
  List.forall_mem_cons.mpr ⟨⟨by decide, zc2 (okJ1_indexOfChar_4cfef E)⟩,
  List.forall_mem_cons.mpr ⟨⟨by decide, zc2 (okJ1_indexOf_4cfef E)⟩,
  List.forall_mem_cons.mpr ⟨⟨by decide, zc2 (okJ3_checkFromToIndex_8c36e E)⟩,
  List.forall_mem_cons.mpr ⟨⟨by decide, zc2 (okJ3_checkIndex_8e157 E)⟩,
  List.forall_mem_cons.mpr ⟨⟨by decide, zc2 (ok2J6_bitCount_0f7a4 E)⟩,
  List.forall_mem_cons.mpr ⟨⟨by decide, zc2 (okJ6_numberOfTrailingZeros_0f7a4 E)⟩,
  List.forall_mem_cons.mpr ⟨⟨by decide, zc2 (okJ7_fill_53178 E)⟩,
  List.forall_mem_cons.mpr ⟨⟨by decide, zc2 (okJ7_fill_d0a16 E)⟩,
  List.forall_mem_cons.mpr ⟨⟨by decide, zc2 (okX0_areTwo E)⟩,
  List.forall_mem_cons.mpr ⟨⟨by decide, zc2 (okX0_differ E)⟩,
  List.forall_mem_cons.mpr ⟨⟨by decide, zc2 (okX0_hardBy E)⟩,
  List.forall_mem_cons.mpr ⟨⟨by decide, zc2 (okX0_has E)⟩,
  List.forall_mem_cons.mpr ⟨⟨by decide, zc2 (okX0_init E)⟩,
  List.forall_mem_cons.mpr ⟨⟨by decide, zc2 (ok2X0_isAble E)⟩,
  List.forall_mem_cons.mpr ⟨⟨by decide, zc2 (okX0_isSomebodyOrNobody E)⟩,
  List.forall_mem_cons.mpr ⟨⟨by decide, zc2 (ok2X0_pass E)⟩,
  List.forall_mem_cons.mpr ⟨⟨by decide, zc2 (okX0_passAll E)⟩,
  List.forall_mem_cons.mpr ⟨⟨by decide, zc2 (ok2X0_readRiders E)⟩,
  List.forall_mem_cons.mpr ⟨⟨by decide, zc2 (okX0_takeHour E)⟩,
  List.forall_mem_cons.mpr ⟨⟨by decide, zc2 (okX0_takeMost E)⟩,
  List.forall_mem_cons.mpr ⟨⟨by decide, zc2 (okX0_takeSign E)⟩,
  List.forall_mem_cons.mpr ⟨⟨by decide, zc2 (okX0_takeWidth E)⟩,
  List.forall_mem_cons.mpr ⟨⟨by decide, zc2 (ok2X0_watch E)⟩,
  List.forall_mem_cons.mpr ⟨⟨by decide, zc2 (ok2X1_add E)⟩,
  List.forall_mem_cons.mpr ⟨⟨by decide, zc2 (okX1_at E)⟩,
  List.forall_mem_cons.mpr ⟨⟨by decide, zc2 (okX1_clear E)⟩,
  List.forall_mem_cons.mpr ⟨⟨by decide, zc2 (okX1_init E)⟩,
  List.forall_mem_cons.mpr ⟨⟨by decide, zc2 (okX1_tell E)⟩,
  List.forall_mem_cons.mpr ⟨⟨by decide, zc2 (okX1_tell_ E)⟩,
  List.forall_mem_cons.mpr ⟨⟨by decide, zc2 (okX2_clear E)⟩,
  List.forall_mem_cons.mpr ⟨⟨by decide, zc2 (okX2_init E)⟩,
  List.forall_mem_cons.mpr ⟨⟨by decide, zc2 (ok2X2_pop E)⟩,
  List.forall_mem_cons.mpr ⟨⟨by decide, zc2 (ok2X2_push E)⟩,
  List.forall_mem_cons.mpr ⟨⟨by decide, zc2 (ok2X3_await E)⟩,
  List.forall_mem_cons.mpr ⟨⟨by decide, zc2 (okX3_begin E)⟩,
  List.forall_mem_cons.mpr ⟨⟨by decide, zc2 (ok2X3_binding E)⟩,
  List.forall_mem_cons.mpr ⟨⟨by decide, zc2 (ok2X3_closeBracket E)⟩,
  List.forall_mem_cons.mpr ⟨⟨by decide, zc2 (ok2X3_emit E)⟩,
  List.forall_mem_cons.mpr ⟨⟨by decide, zc2 (okX3_init E)⟩,
  List.forall_mem_cons.mpr ⟨⟨by decide, zc2 (ok2X3_openBracket E)⟩,
  List.forall_mem_cons.mpr ⟨⟨by decide, zc2 (okX3_push E)⟩,
  List.forall_mem_cons.mpr ⟨⟨by decide, zc2 (okX3_read E)⟩,
  List.forall_mem_cons.mpr ⟨⟨by decide, zc2 (okX3_readFirst E)⟩,
  List.forall_mem_cons.mpr ⟨⟨by decide, zc2 (ok2X3_reckon E)⟩,
  List.forall_mem_cons.mpr ⟨⟨by decide, zc2 (ok2X3_reckonDownTo E)⟩,
  List.forall_mem_cons.mpr ⟨⟨by decide, zc2 (okX3_takeBehindThing E)⟩,
  List.forall_mem_cons.mpr ⟨⟨by decide, zc2 (ok2X3_takeDigitMore E)⟩,
  List.forall_mem_cons.mpr ⟨⟨by decide, zc2 (okX3_takeThing E)⟩,
  List.forall_mem_cons.mpr ⟨⟨by decide, zc2 (ok2X3_value E)⟩,
  List.forall_mem_cons.mpr ⟨⟨by decide, zc2 (ok2X4_addLeast E)⟩,
  List.forall_mem_cons.mpr ⟨⟨by decide, zc2 (ok2X4_addLeastMost E)⟩,
  List.forall_mem_cons.mpr ⟨⟨by decide, zc2 (okX4_addStep E)⟩,
  List.forall_mem_cons.mpr ⟨⟨by decide, zc2 (ok2X4_addWays E)⟩,
  List.forall_mem_cons.mpr ⟨⟨by decide, zc2 (okX4_bar E)⟩,
  List.forall_mem_cons.mpr ⟨⟨by decide, zc2 (okX4_canHold E)⟩,
  List.forall_mem_cons.mpr ⟨⟨by decide, zc2 (okX4_charge E)⟩,
  List.forall_mem_cons.mpr ⟨⟨by decide, zc2 (okX4_findLacks E)⟩,
  List.forall_mem_cons.mpr ⟨⟨by decide, zc2 (okX4_findLacksIn E)⟩,
  List.forall_mem_cons.mpr ⟨⟨by decide, zc2 (okX4_holdTo E)⟩,
  List.forall_mem_cons.mpr ⟨⟨by decide, zc2 (okX4_init E)⟩,
  List.forall_mem_cons.mpr ⟨⟨by decide, zc2 (okX4_lacks E)⟩,
  List.forall_mem_cons.mpr ⟨⟨by decide, zc2 (okX4_least E)⟩,
  List.forall_mem_cons.mpr ⟨⟨by decide, zc2 (okX4_leastMost E)⟩,
  List.forall_mem_cons.mpr ⟨⟨by decide, zc2 (okX4_mostIn E)⟩,
  List.forall_mem_cons.mpr ⟨⟨by decide, zc2 (okX4_open E)⟩,
  List.forall_mem_cons.mpr ⟨⟨by decide, zc2 (okX4_orderByWidth E)⟩,
  List.forall_mem_cons.mpr ⟨⟨by decide, zc2 (okX4_price E)⟩,
  List.forall_mem_cons.mpr ⟨⟨by decide, zc2 (okX4_priceOf E)⟩,
  List.forall_mem_cons.mpr ⟨⟨by decide, zc2 (okX4_riderIn E)⟩,
  List.forall_mem_cons.mpr ⟨⟨by decide, zc2 (okX4_seat E)⟩,
  List.forall_mem_cons.mpr ⟨⟨by decide, zc2 (okX4_tallyAll E)⟩,
  List.forall_mem_cons.mpr ⟨⟨by decide, zc2 (ok2X4_tallyRider E)⟩,
  List.forall_mem_cons.mpr ⟨⟨by decide, zc2 (okX4_ways E)⟩,
  List.forall_mem_cons.mpr ⟨⟨by decide, zc2 (ok2X4_waysRound E)⟩,
  List.forall_mem_cons.mpr ⟨⟨by decide, zc2 (okX4_weigh E)⟩,
  List.forall_mem_cons.mpr ⟨⟨by decide, zc2 (okX5_copy E)⟩,
  List.forall_mem_cons.mpr ⟨⟨by decide, zc2 (okX5_hoursOf E)⟩,
  List.forall_mem_cons.mpr ⟨⟨by decide, zc2 (okX5_init E)⟩,
  List.forall_mem_cons.mpr ⟨⟨by decide, zc2 (okX5_isIll E)⟩,
  List.forall_mem_cons.mpr ⟨⟨by decide, zc2 (okX5_mostTired E)⟩,
  List.forall_mem_cons.mpr ⟨⟨by decide, zc2 (okX5_tiredOfAll E)⟩,
  List.forall_mem_cons.mpr ⟨⟨by decide, zc2 (okX5_turnIll E)⟩,
  List.forall_mem_cons.mpr ⟨⟨by decide, zc2 (ok2X6_add E)⟩,
  List.forall_mem_cons.mpr ⟨⟨by decide, zc2 (okX6_at E)⟩,
  List.forall_mem_cons.mpr ⟨⟨by decide, zc2 (okX6_cut E)⟩,
  List.forall_mem_cons.mpr ⟨⟨by decide, zc2 (okX6_empty E)⟩,
  List.forall_mem_cons.mpr ⟨⟨by decide, zc2 (okX6_init E)⟩,
  List.forall_mem_cons.mpr ⟨⟨by decide, zc2 (ok2X7_able E)⟩,
  List.forall_mem_cons.mpr ⟨⟨by decide, zc2 (ok2X7_act E)⟩,
  List.forall_mem_cons.mpr ⟨⟨by decide, zc2 (ok2X7_actExchange E)⟩,
  List.forall_mem_cons.mpr ⟨⟨by decide, zc2 (ok2X7_actGive E)⟩,
  List.forall_mem_cons.mpr ⟨⟨by decide, zc2 (ok2X7_actIll E)⟩,
  List.forall_mem_cons.mpr ⟨⟨by decide, zc2 (ok2X7_actSigns E)⟩,
  List.forall_mem_cons.mpr ⟨⟨by decide, zc2 (ok2X7_again E)⟩,
  List.forall_mem_cons.mpr ⟨⟨by decide, zc2 (okX7_ask E)⟩,
  List.forall_mem_cons.mpr ⟨⟨by decide, zc2 (okX7_away E)⟩,
  List.forall_mem_cons.mpr ⟨⟨by decide, zc2 (okX7_bare E)⟩,
  List.forall_mem_cons.mpr ⟨⟨by decide, zc2 (okX7_between E)⟩,
  List.forall_mem_cons.mpr ⟨⟨by decide, zc2 (okX7_chance E)⟩,
  List.forall_mem_cons.mpr ⟨⟨by decide, zc2 (ok2X7_changes E)⟩,
  List.forall_mem_cons.mpr ⟨⟨by decide, zc2 (ok2X7_count E)⟩,
  List.forall_mem_cons.mpr ⟨⟨by decide, zc2 (ok2X7_draw E)⟩,
  List.forall_mem_cons.mpr ⟨⟨by decide, zc2 (okX7_drawAct E)⟩,
  List.forall_mem_cons.mpr ⟨⟨by decide, zc2 (okX7_easiest E)⟩,
  List.forall_mem_cons.mpr ⟨⟨by decide, zc2 (okX7_easiestWithout E)⟩,
  List.forall_mem_cons.mpr ⟨⟨by decide, zc2 (ok2X7_end E)⟩,
  List.forall_mem_cons.mpr ⟨⟨by decide, zc2 (okX7_entry E)⟩,
  List.forall_mem_cons.mpr ⟨⟨by decide, zc2 (okX7_fairest E)⟩,
  List.forall_mem_cons.mpr ⟨⟨by decide, zc2 (okX7_fewest E)⟩,
  List.forall_mem_cons.mpr ⟨⟨by decide, zc2 (ok2X7_first E)⟩,
  List.forall_mem_cons.mpr ⟨⟨by decide, zc2 (okX7_fits E)⟩,
  List.forall_mem_cons.mpr ⟨⟨by decide, zc2 (okX7_forget E)⟩,
  List.forall_mem_cons.mpr ⟨⟨by decide, zc2 (okX7_forgetKept E)⟩,
  List.forall_mem_cons.mpr ⟨⟨by decide, zc2 (ok2X7_found E)⟩,
  List.forall_mem_cons.mpr ⟨⟨by decide, zc2 (okX7_gaps E)⟩,
  List.forall_mem_cons.mpr ⟨⟨by decide, zc2 (okX7_gapsByTrade E)⟩,
  List.forall_mem_cons.mpr ⟨⟨by decide, zc2 (ok2X7_give E)⟩,
  List.forall_mem_cons.mpr ⟨⟨by decide, zc2 (ok2X7_greatestShared E)⟩,
  List.forall_mem_cons.mpr ⟨⟨by decide, zc2 (ok2X7_hard E)⟩,
  List.forall_mem_cons.mpr ⟨⟨by decide, zc2 (okX7_hardNow E)⟩,
  List.forall_mem_cons.mpr ⟨⟨by decide, zc2 (ok2X7_hardOfRota E)⟩,
  List.forall_mem_cons.mpr ⟨⟨by decide, zc2 (okX7_hardestOf E)⟩,
  List.forall_mem_cons.mpr ⟨⟨by decide, zc2 (ok2X7_held E)⟩,
  List.forall_mem_cons.mpr ⟨⟨by decide, zc2 (ok2X7_ill E)⟩,
  List.forall_mem_cons.mpr ⟨⟨by decide, zc2 (okX7_init E)⟩,
  List.forall_mem_cons.mpr ⟨⟨by decide, zc2 (okX7_isAtRest E)⟩,
  List.forall_mem_cons.mpr ⟨⟨by decide, zc2 (okX7_isDigit E)⟩,
  List.forall_mem_cons.mpr ⟨⟨by decide, zc2 (okX7_isHour E)⟩,
  List.forall_mem_cons.mpr ⟨⟨by decide, zc2 (ok2X7_keep E)⟩,
  List.forall_mem_cons.mpr ⟨⟨by decide, zc2 (ok2X7_keystone E)⟩,
  List.forall_mem_cons.mpr ⟨⟨by decide, zc2 (ok2X7_later E)⟩,
  List.forall_mem_cons.mpr ⟨⟨by decide, zc2 (okX7_law E)⟩,
  List.forall_mem_cons.mpr ⟨⟨by decide, zc2 (okX7_leastHard E)⟩,
  List.forall_mem_cons.mpr ⟨⟨by decide, zc2 (ok2X7_lowest E)⟩,
  List.forall_mem_cons.mpr ⟨⟨by decide, zc2 (ok2X7_meets E)⟩,
  List.forall_mem_cons.mpr ⟨⟨by decide, zc2 (ok2X7_mended E)⟩,
  List.forall_mem_cons.mpr ⟨⟨by decide, zc2 (ok2X7_missed E)⟩,
  List.forall_mem_cons.mpr ⟨⟨by decide, zc2 (ok2X7_nights E)⟩,
  List.forall_mem_cons.mpr ⟨⟨by decide, zc2 (okX7_openFitting E)⟩,
  List.forall_mem_cons.mpr ⟨⟨by decide, zc2 (okX7_openSeats E)⟩,
  List.forall_mem_cons.mpr ⟨⟨by decide, zc2 (ok2X7_paid E)⟩,
  List.forall_mem_cons.mpr ⟨⟨by decide, zc2 (okX7_power E)⟩,
  List.forall_mem_cons.mpr ⟨⟨by decide, zc2 (okX7_priceByDifference E)⟩,
  List.forall_mem_cons.mpr ⟨⟨by decide, zc2 (okX7_priceByHard E)⟩,
  List.forall_mem_cons.mpr ⟨⟨by decide, zc2 (okX7_priceByName E)⟩,
  List.forall_mem_cons.mpr ⟨⟨by decide, zc2 (okX7_readSpare E)⟩,
  List.forall_mem_cons.mpr ⟨⟨by decide, zc2 (ok2X7_rests E)⟩,
  List.forall_mem_cons.mpr ⟨⟨by decide, zc2 (ok2X7_rider E)⟩,
  List.forall_mem_cons.mpr ⟨⟨by decide, zc2 (okX7_riders E)⟩,
  List.forall_mem_cons.mpr ⟨⟨by decide, zc2 (okX7_rota E)⟩,
  List.forall_mem_cons.mpr ⟨⟨by decide, zc2 (okX7_rotaFault E)⟩,
  List.forall_mem_cons.mpr ⟨⟨by decide, zc2 (okX7_rotas E)⟩,
  List.forall_mem_cons.mpr ⟨⟨by decide, zc2 (ok2X7_row E)⟩,
  List.forall_mem_cons.mpr ⟨⟨by decide, zc2 (okX7_rule E)⟩,
  List.forall_mem_cons.mpr ⟨⟨by decide, zc2 (ok2X7_set E)⟩,
  List.forall_mem_cons.mpr ⟨⟨by decide, zc2 (ok2X7_shared E)⟩,
  List.forall_mem_cons.mpr ⟨⟨by decide, zc2 (ok2X7_sheet E)⟩,
  List.forall_mem_cons.mpr ⟨⟨by decide, zc2 (okX7_sign E)⟩,
  List.forall_mem_cons.mpr ⟨⟨by decide, zc2 (okX7_smoothest E)⟩,
  List.forall_mem_cons.mpr ⟨⟨by decide, zc2 (ok2X7_spent E)⟩,
  List.forall_mem_cons.mpr ⟨⟨by decide, zc2 (ok2X7_sure E)⟩,
  List.forall_mem_cons.mpr ⟨⟨by decide, zc2 (okX7_takeRota E)⟩,
  List.forall_mem_cons.mpr ⟨⟨by decide, zc2 (okX7_takes E)⟩,
  List.forall_mem_cons.mpr ⟨⟨by decide, zc2 (ok2X7_tellFraction E)⟩,
  List.forall_mem_cons.mpr ⟨⟨by decide, zc2 (okX7_tellRota E)⟩,
  List.forall_mem_cons.mpr ⟨⟨by decide, zc2 (okX7_tellWays E)⟩,
  List.forall_mem_cons.mpr ⟨⟨by decide, zc2 (okX7_thin E)⟩,
  List.forall_mem_cons.mpr ⟨⟨by decide, zc2 (okX7_trade E)⟩,
  List.forall_mem_cons.mpr ⟨⟨by decide, zc2 (okX7_undo E)⟩,
  List.forall_mem_cons.mpr ⟨⟨by decide, zc2 (ok2X7_vigil E)⟩,
  List.forall_mem_cons.mpr ⟨⟨by decide, zc2 (okX7_wellOnes E)⟩,
  List.forall_mem_cons.mpr ⟨⟨by decide, zc2 (okX7_year E)⟩,
  List.forall_mem_cons.mpr ⟨⟨by decide, zc2 (okX7_yearFault E)⟩,
  List.forall_mem_cons.mpr ⟨⟨by decide, zc2 (ok2X7_years E)⟩,
  List.forall_mem_cons.mpr ⟨⟨by decide, zc2 (ok2X8_able E)⟩,
  List.forall_mem_cons.mpr ⟨⟨by decide, zc2 (okX8_ableMany E)⟩,
  List.forall_mem_cons.mpr ⟨⟨by decide, zc2 (ok2X8_act E)⟩,
  List.forall_mem_cons.mpr ⟨⟨by decide, zc2 (ok2X8_again E)⟩,
  List.forall_mem_cons.mpr ⟨⟨by decide, zc2 (okX8_areRight E)⟩,
  List.forall_mem_cons.mpr ⟨⟨by decide, zc2 (okX8_areTwo E)⟩,
  List.forall_mem_cons.mpr ⟨⟨by decide, zc2 (okX8_ask E)⟩,
  List.forall_mem_cons.mpr ⟨⟨by decide, zc2 (okX8_away E)⟩,
  List.forall_mem_cons.mpr ⟨⟨by decide, zc2 (okX8_bare E)⟩,
  List.forall_mem_cons.mpr ⟨⟨by decide, zc2 (okX8_begin E)⟩,
  List.forall_mem_cons.mpr ⟨⟨by decide, zc2 (okX8_beginText E)⟩,
  List.forall_mem_cons.mpr ⟨⟨by decide, zc2 (okX8_bringMay E)⟩,
  List.forall_mem_cons.mpr ⟨⟨by decide, zc2 (okX8_canTake E)⟩,
  List.forall_mem_cons.mpr ⟨⟨by decide, zc2 (okX8_changes E)⟩,
  List.forall_mem_cons.mpr ⟨⟨by decide, zc2 (okX8_common E)⟩,
  List.forall_mem_cons.mpr ⟨⟨by decide, zc2 (okX8_costOf E)⟩,
  List.forall_mem_cons.mpr ⟨⟨by decide, zc2 (ok2X8_count E)⟩,
  List.forall_mem_cons.mpr ⟨⟨by decide, zc2 (ok2X8_countWays E)⟩,
  List.forall_mem_cons.mpr ⟨⟨by decide, zc2 (okX8_draw E)⟩,
  List.forall_mem_cons.mpr ⟨⟨by decide, zc2 (okX8_easiest E)⟩,
  List.forall_mem_cons.mpr ⟨⟨by decide, zc2 (okX8_easiestBut E)⟩,
  List.forall_mem_cons.mpr ⟨⟨by decide, zc2 (ok2X8_end E)⟩,
  List.forall_mem_cons.mpr ⟨⟨by decide, zc2 (okX8_fairest E)⟩,
  List.forall_mem_cons.mpr ⟨⟨by decide, zc2 (okX8_fault E)⟩,
  List.forall_mem_cons.mpr ⟨⟨by decide, zc2 (okX8_fewest E)⟩,
  List.forall_mem_cons.mpr ⟨⟨by decide, zc2 (ok2X8_fine E)⟩,
  List.forall_mem_cons.mpr ⟨⟨by decide, zc2 (ok2X8_first E)⟩,
  List.forall_mem_cons.mpr ⟨⟨by decide, zc2 (okX8_firstGets E)⟩,
  List.forall_mem_cons.mpr ⟨⟨by decide, zc2 (okX8_fits E)⟩,
  List.forall_mem_cons.mpr ⟨⟨by decide, zc2 (okX8_fitting E)⟩,
  List.forall_mem_cons.mpr ⟨⟨by decide, zc2 (okX8_fix E)⟩,
  List.forall_mem_cons.mpr ⟨⟨by decide, zc2 (okX8_forget E)⟩,
  List.forall_mem_cons.mpr ⟨⟨by decide, zc2 (ok2X8_found E)⟩,
  List.forall_mem_cons.mpr ⟨⟨by decide, zc2 (okX8_gaps E)⟩,
  List.forall_mem_cons.mpr ⟨⟨by decide, zc2 (ok2X8_give E)⟩,
  List.forall_mem_cons.mpr ⟨⟨by decide, zc2 (okX8_goExchange E)⟩,
  List.forall_mem_cons.mpr ⟨⟨by decide, zc2 (okX8_goNight E)⟩,
  List.forall_mem_cons.mpr ⟨⟨by decide, zc2 (okX8_goNights E)⟩,
  List.forall_mem_cons.mpr ⟨⟨by decide, zc2 (okX8_goSmooth E)⟩,
  List.forall_mem_cons.mpr ⟨⟨by decide, zc2 (ok2X8_hard E)⟩,
  List.forall_mem_cons.mpr ⟨⟨by decide, zc2 (okX8_hardBy E)⟩,
  List.forall_mem_cons.mpr ⟨⟨by decide, zc2 (okX8_hardOf E)⟩,
  List.forall_mem_cons.mpr ⟨⟨by decide, zc2 (ok2X8_hardOfRota E)⟩,
  List.forall_mem_cons.mpr ⟨⟨by decide, zc2 (okX8_has E)⟩,
  List.forall_mem_cons.mpr ⟨⟨by decide, zc2 (ok2X8_held E)⟩,
  List.forall_mem_cons.mpr ⟨⟨by decide, zc2 (okX8_heldBy E)⟩,
  List.forall_mem_cons.mpr ⟨⟨by decide, zc2 (okX8_heldParts E)⟩,
  List.forall_mem_cons.mpr ⟨⟨by decide, zc2 (ok2X8_here E)⟩,
  List.forall_mem_cons.mpr ⟨⟨by decide, zc2 (okX8_hoursOf E)⟩,
  List.forall_mem_cons.mpr ⟨⟨by decide, zc2 (ok2X8_ill E)⟩,
  List.forall_mem_cons.mpr ⟨⟨by decide, zc2 (okX8_illBits E)⟩,
  List.forall_mem_cons.mpr ⟨⟨by decide, zc2 (okX8_in E)⟩,
  List.forall_mem_cons.mpr ⟨⟨by decide, zc2 (okX8_init E)⟩,
  List.forall_mem_cons.mpr ⟨⟨by decide, zc2 (okX8_isGift E)⟩,
  List.forall_mem_cons.mpr ⟨⟨by decide, zc2 (okX8_isHour E)⟩,
  List.forall_mem_cons.mpr ⟨⟨by decide, zc2 (okX8_isMan E)⟩,
  List.forall_mem_cons.mpr ⟨⟨by decide, zc2 (okX8_isRest E)⟩,
  List.forall_mem_cons.mpr ⟨⟨by decide, zc2 (ok2X8_keep E)⟩,
  List.forall_mem_cons.mpr ⟨⟨by decide, zc2 (okX8_keepMay E)⟩,
  List.forall_mem_cons.mpr ⟨⟨by decide, zc2 (ok2X8_keystone E)⟩,
  List.forall_mem_cons.mpr ⟨⟨by decide, zc2 (ok2X8_later E)⟩,
  List.forall_mem_cons.mpr ⟨⟨by decide, zc2 (ok2X8_law E)⟩,
  List.forall_mem_cons.mpr ⟨⟨by decide, zc2 (okX8_lay E)⟩,
  List.forall_mem_cons.mpr ⟨⟨by decide, zc2 (okX8_layCanBe E)⟩,
  List.forall_mem_cons.mpr ⟨⟨by decide, zc2 (okX8_layFound E)⟩,
  List.forall_mem_cons.mpr ⟨⟨by decide, zc2 (okX8_layLine E)⟩,
  List.forall_mem_cons.mpr ⟨⟨by decide, zc2 (okX8_layMay E)⟩,
  List.forall_mem_cons.mpr ⟨⟨by decide, zc2 (okX8_letterOf E)⟩,
  List.forall_mem_cons.mpr ⟨⟨by decide, zc2 (okX8_lost E)⟩,
  List.forall_mem_cons.mpr ⟨⟨by decide, zc2 (ok2X8_meets E)⟩,
  List.forall_mem_cons.mpr ⟨⟨by decide, zc2 (ok2X8_mended E)⟩,
  List.forall_mem_cons.mpr ⟨⟨by decide, zc2 (ok2X8_missed E)⟩,
  List.forall_mem_cons.mpr ⟨⟨by decide, zc2 (okX8_need E)⟩,
  List.forall_mem_cons.mpr ⟨⟨by decide, zc2 (okX8_night E)⟩,
  List.forall_mem_cons.mpr ⟨⟨by decide, zc2 (ok2X8_nights E)⟩,
  List.forall_mem_cons.mpr ⟨⟨by decide, zc2 (okX8_number E)⟩,
  List.forall_mem_cons.mpr ⟨⟨by decide, zc2 (okX8_oneOf E)⟩,
  List.forall_mem_cons.mpr ⟨⟨by decide, zc2 (okX8_otherGets E)⟩,
  List.forall_mem_cons.mpr ⟨⟨by decide, zc2 (ok2X8_paid E)⟩,
  List.forall_mem_cons.mpr ⟨⟨by decide, zc2 (okX8_passes E)⟩,
  List.forall_mem_cons.mpr ⟨⟨by decide, zc2 (okX8_power E)⟩,
  List.forall_mem_cons.mpr ⟨⟨by decide, zc2 (ok2X8_product E)⟩,
  List.forall_mem_cons.mpr ⟨⟨by decide, zc2 (okX8_readAct E)⟩,
  List.forall_mem_cons.mpr ⟨⟨by decide, zc2 (ok2X8_readMan E)⟩,
  List.forall_mem_cons.mpr ⟨⟨by decide, zc2 (okX8_readRule E)⟩,
  List.forall_mem_cons.mpr ⟨⟨by decide, zc2 (ok2X8_remember E)⟩,
  List.forall_mem_cons.mpr ⟨⟨by decide, zc2 (ok2X8_rests E)⟩,
  List.forall_mem_cons.mpr ⟨⟨by decide, zc2 (ok2X8_rider E)⟩,
  List.forall_mem_cons.mpr ⟨⟨by decide, zc2 (ok2X8_riders E)⟩,
  List.forall_mem_cons.mpr ⟨⟨by decide, zc2 (ok2X8_rota E)⟩,
  List.forall_mem_cons.mpr ⟨⟨by decide, zc2 (okX8_rotas E)⟩,
  List.forall_mem_cons.mpr ⟨⟨by decide, zc2 (ok2X8_row E)⟩,
  List.forall_mem_cons.mpr ⟨⟨by decide, zc2 (ok2X8_rule E)⟩,
  List.forall_mem_cons.mpr ⟨⟨by decide, zc2 (ok2X8_set E)⟩,
  List.forall_mem_cons.mpr ⟨⟨by decide, zc2 (ok2X8_shared E)⟩,
  List.forall_mem_cons.mpr ⟨⟨by decide, zc2 (ok2X8_sheet E)⟩,
  List.forall_mem_cons.mpr ⟨⟨by decide, zc2 (ok2X8_sign E)⟩,
  List.forall_mem_cons.mpr ⟨⟨by decide, zc2 (ok2X8_smoothest E)⟩,
  List.forall_mem_cons.mpr ⟨⟨by decide, zc2 (ok2X8_solve E)⟩,
  List.forall_mem_cons.mpr ⟨⟨by decide, zc2 (ok2X8_spent E)⟩,
  List.forall_mem_cons.mpr ⟨⟨by decide, zc2 (okX8_sum E)⟩,
  List.forall_mem_cons.mpr ⟨⟨by decide, zc2 (ok2X8_sure E)⟩,
  List.forall_mem_cons.mpr ⟨⟨by decide, zc2 (okX8_takes E)⟩,
  List.forall_mem_cons.mpr ⟨⟨by decide, zc2 (okX8_tell E)⟩,
  List.forall_mem_cons.mpr ⟨⟨by decide, zc2 (ok2X8_tellLine E)⟩,
  List.forall_mem_cons.mpr ⟨⟨by decide, zc2 (okX8_tellPart E)⟩,
  List.forall_mem_cons.mpr ⟨⟨by decide, zc2 (okX8_tellWays E)⟩,
  List.forall_mem_cons.mpr ⟨⟨by decide, zc2 (okX8_thin E)⟩,
  List.forall_mem_cons.mpr ⟨⟨by decide, zc2 (ok2X8_thing E)⟩,
  List.forall_mem_cons.mpr ⟨⟨by decide, zc2 (okX8_tired E)⟩,
  List.forall_mem_cons.mpr ⟨⟨by decide, zc2 (okX8_trade E)⟩,
  List.forall_mem_cons.mpr ⟨⟨by decide, zc2 (ok2X8_undo E)⟩,
  List.forall_mem_cons.mpr ⟨⟨by decide, zc2 (ok2X8_vigil E)⟩,
  List.forall_mem_cons.mpr ⟨⟨by decide, zc2 (okX8_wasRight E)⟩,
  List.forall_mem_cons.mpr ⟨⟨by decide, zc2 (okX8_well E)⟩,
  List.forall_mem_cons.mpr ⟨⟨by decide, zc2 (okX8_year E)⟩,
  List.forall_mem_cons.mpr ⟨⟨by decide, zc2 (ok2X8_years E)⟩,
  fun _ h => absurd h List.not_mem_nil⟩⟩⟩⟩⟩⟩⟩⟩⟩⟩⟩⟩⟩⟩⟩⟩⟩⟩⟩⟩⟩⟩⟩⟩⟩⟩⟩⟩⟩⟩⟩⟩⟩⟩⟩⟩⟩⟩⟩⟩⟩⟩⟩⟩⟩⟩⟩⟩⟩⟩⟩⟩⟩⟩⟩⟩⟩⟩⟩⟩⟩⟩⟩⟩⟩⟩⟩⟩⟩⟩⟩⟩⟩⟩⟩⟩⟩⟩⟩⟩⟩⟩⟩⟩⟩⟩⟩⟩⟩⟩⟩⟩⟩⟩⟩⟩⟩⟩⟩⟩⟩⟩⟩⟩⟩⟩⟩⟩⟩⟩⟩⟩⟩⟩⟩⟩⟩⟩⟩⟩⟩⟩⟩⟩⟩⟩⟩⟩⟩⟩⟩⟩⟩⟩⟩⟩⟩⟩⟩⟩⟩⟩⟩⟩⟩⟩⟩⟩⟩⟩⟩⟩⟩⟩⟩⟩⟩⟩⟩⟩⟩⟩⟩⟩⟩⟩⟩⟩⟩⟩⟩⟩⟩⟩⟩⟩⟩⟩⟩⟩⟩⟩⟩⟩⟩⟩⟩⟩⟩⟩⟩⟩⟩⟩⟩⟩⟩⟩⟩⟩⟩⟩⟩⟩⟩⟩⟩⟩⟩⟩⟩⟩⟩⟩⟩⟩⟩⟩⟩⟩⟩⟩⟩⟩⟩⟩⟩⟩⟩⟩⟩⟩⟩⟩⟩⟩⟩⟩⟩⟩⟩⟩⟩⟩⟩⟩⟩⟩⟩⟩⟩⟩⟩⟩⟩⟩⟩⟩⟩⟩⟩⟩⟩⟩⟩⟩⟩⟩⟩⟩⟩⟩⟩⟩⟩⟩⟩⟩⟩⟩⟩⟩⟩⟩⟩⟩⟩⟩⟩⟩⟩⟩⟩⟩⟩⟩⟩⟩⟩⟩⟩
theorem zprog2_ok {l : Launch} {D : va_G} {tys : List (ClassId × FieldType)} {o : zO} {z : Nat} (E : zEnv tys) : zProgOk l D vwCl tys o z (zXX o z) zTs zprog2 := fun mi mr h => zprog2_all E mr (List.mem_of_getElem? (i := mi) (by rw [← zget_eq]; exact h))
/-- known of a method: by its good points -/
theorem zkn_pt {l : Launch} {D : va_G} {tys : List (ClassId × FieldType)} {o : zO} {z : Nat} (E : zEnv tys) {ds : List zKw} (hds : ∀ g, ∀ d ∈ ds, zKnW l D vwCl tys (zwith o g) z (zXX o z) zTs zprog2 d) {mi : Nat} {mr : zM} (hm : zget zprog2 mi = some mr) {n : Nat} {sl : List (Nat × Nat)} {G pts : List zPw} (hG : ∀ q ∈ G, zPtOk l D vwCl tys o z (zXX o z) zTs mr q) (hchk : zchkX sl zprog2 (zovW ds) n mr.2.2.2.2.2.2 G pts pts = true) : ∀ q ∈ pts, zPtOk l D vwCl tys o z (zXX o z) zTs mr q :=
  zPt_mk (fun g => zovW_ok (hds g)) zXX_ok (fun g => zprog2_ok (o := zwith o g) E) hm hG hchk
theorem zkn_mk {l : Launch} {D : va_G} {tys : List (ClassId × FieldType)} {o : zO} {z : Nat} (E : zEnv tys) {ds : List zKw} (hds : ∀ g, ∀ d ∈ ds, zKnW l D vwCl tys (zwith o g) z (zXX o z) zTs zprog2 d) {mi maxL f lo : Nat} {mr : zM} (hm : zget zprog2 mi = some mr) (hL : mr.2.2.1 = maxL) {as : List zAV} {h h2 : zH} {r2 : Option zAV} (k0 : 1 ≤ f) (k1 : 200 ≤ lo) (k2 : zcats as ≤ mr.2.2.1) (k3 : zcats as ≤ 700) {n : Nat} {sl : List (Nat × Nat)} {G : List zPw} (hG : ∀ q ∈ G, zPtOk l D vwCl tys o z (zXX o z) zTs mr q) (hc : zrunw zprog2 (zovW ds) n (zcutW sl none ((r2, h2), f, lo) G) f lo mr.2.2.2.2.2.2 (zkin r2 h2) 0 (zargs 0 as, [], (h.1, h.2.1, 0), 0, 0) = true) : zKnW l D vwCl tys o z (zXX o z) zTs zprog2 (mi, maxL, f, lo, as, h, [(r2, h2)]) := by
  intro mr' hm'
  rw [hm] at hm'
  cases hm'
  exact ⟨hL, zMet_one (zMet_G (fun g => zovW_ok (hds g)) zXX_ok (fun g => zprog2_ok (o := zwith o g) E) hm k0 k1 k2 k3 hG hc)⟩
theorem zkn_ml {l : Launch} {D : va_G} {tys : List (ClassId × FieldType)} {o : zO} {z : Nat} (E : zEnv tys) {ds : List zKw} (hds : ∀ g, ∀ d ∈ ds, zKnW l D vwCl tys (zwith o g) z (zXX o z) zTs zprog2 d) {mi maxL f lo : Nat} {mr : zM} (hm : zget zprog2 mi = some mr) (hL : mr.2.2.1 = maxL) {as : List zAV} {h : zH} {qs : List (Option zAV × zH)} (k0 : 1 ≤ f) (k1 : 200 ≤ lo) (k2 : zcats as ≤ mr.2.2.1) (k3 : zcats as ≤ 700) {n : Nat} (hc : zrunw zprog2 (zovW ds) n zcut0 f lo mr.2.2.2.2.2.2 (zkinL qs) 0 (zargs 0 as, [], (h.1, h.2.1, 0), 0, 0) = true) : zKnW l D vwCl tys o z (zXX o z) zTs zprog2 (mi, maxL, f, lo, as, h, qs) := by
  intro mr' hm'
  rw [hm] at hm'
  cases hm'
  exact ⟨hL, zMet_run (fun g => zovW_ok (hds g)) zXX_ok (fun g => zprog2_ok (o := zwith o g) E) hm k0 k1 k2 k3 hc⟩

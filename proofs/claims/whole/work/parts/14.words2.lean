/-! ===== more words: classes that are made, their fields, arrays ===== -/
def mnw (own : Nat) (e : Nat × Nat) : List Cond := if e.2 < 12 then [.classLink (mcn own) e.1 (mcn e.2), .instantiable (mcn e.2) (mnum e.2), .initialized (mcn e.2)] else []
def mchkn (own : Nat) : List (Nat × Nat) → List (List Nat) → Bool
  | [], [] => true
  | e :: es, ps :: pss => mchkw (mnw own e) ps && mchkn own es pss
  | _, _ => false
theorem mchkn_ok (own : Nat) : ∀ (es : List (Nat × Nat)) (pss : List (List Nat)), mchkn own es pss = true → ∀ e ∈ es, ∀ w ∈ mnw own e, w ∈ lw_tbl ∧ goodWord w = true
  | [], _, _, w, h => nomatch h
  | e :: es, [], h, _, _ => by simp [mchkn] at h
  | e :: es, ps :: pss, h, v, hv => by
    simp only [mchkn, Bool.and_eq_true] at h
    rcases List.mem_cons.mp hv with rfl | hv
    · exact mchkw_ok _ _ h.1
    · exact mchkn_ok own es pss h.2 v hv
set_option maxRecDepth 100000 in
set_option maxHeartbeats 4000000 in
theorem mn_ok0 : ∀ e ∈ mnTab 0, ∀ w ∈ mnw 0 e, w ∈ lw_tbl ∧ goodWord w = true := mchkn_ok 0 _ [[382, 270, 125]] (by decide +kernel)
set_option maxRecDepth 100000 in
set_option maxHeartbeats 4000000 in
theorem mn_ok1 : ∀ e ∈ mnTab 1, ∀ w ∈ mnw 1 e, w ∈ lw_tbl ∧ goodWord w = true := mchkn_ok 1 _ [[269, 270, 125], [376, 377, 129]] (by decide +kernel)
set_option maxRecDepth 100000 in
set_option maxHeartbeats 4000000 in
theorem mn_ok2 : ∀ e ∈ mnTab 2, ∀ w ∈ mnw 2 e, w ∈ lw_tbl ∧ goodWord w = true := mchkn_ok 2 _ [] (by decide +kernel)
set_option maxRecDepth 100000 in
set_option maxHeartbeats 4000000 in
theorem mn_ok3 : ∀ e ∈ mnTab 3, ∀ w ∈ mnw 3 e, w ∈ lw_tbl ∧ goodWord w = true := mchkn_ok 3 _ [] (by decide +kernel)
set_option maxRecDepth 100000 in
set_option maxHeartbeats 4000000 in
theorem mn_ok4 : ∀ e ∈ mnTab 4, ∀ w ∈ mnw 4 e, w ∈ lw_tbl ∧ goodWord w = true := mchkn_ok 4 _ [] (by decide +kernel)
set_option maxRecDepth 100000 in
set_option maxHeartbeats 4000000 in
theorem mn_ok5 : ∀ e ∈ mnTab 5, ∀ w ∈ mnw 5 e, w ∈ lw_tbl ∧ goodWord w = true := mchkn_ok 5 _ [] (by decide +kernel)
set_option maxRecDepth 100000 in
set_option maxHeartbeats 4000000 in
theorem mn_ok6 : ∀ e ∈ mnTab 6, ∀ w ∈ mnw 6 e, w ∈ lw_tbl ∧ goodWord w = true := mchkn_ok 6 _ [] (by decide +kernel)
set_option maxRecDepth 100000 in
set_option maxHeartbeats 4000000 in
theorem mn_ok7 : ∀ e ∈ mnTab 7, ∀ w ∈ mnw 7 e, w ∈ lw_tbl ∧ goodWord w = true := mchkn_ok 7 _ [[275, 276, 126], [304, 305, 128]] (by decide +kernel)
set_option maxRecDepth 100000 in
set_option maxHeartbeats 4000000 in
theorem mn_ok8 : ∀ e ∈ mnTab 8, ∀ w ∈ mnw 8 e, w ∈ lw_tbl ∧ goodWord w = true := mchkn_ok 8 _ [] (by decide +kernel)
set_option maxRecDepth 100000 in
set_option maxHeartbeats 4000000 in
theorem mn_ok9 : ∀ e ∈ mnTab 9, ∀ w ∈ mnw 9 e, w ∈ lw_tbl ∧ goodWord w = true := mchkn_ok 9 _ [] (by decide +kernel)
set_option maxRecDepth 100000 in
set_option maxHeartbeats 4000000 in
theorem mn_ok10 : ∀ e ∈ mnTab 10, ∀ w ∈ mnw 10 e, w ∈ lw_tbl ∧ goodWord w = true := mchkn_ok 10 _ [[153, 154, 122], [226, 227, 123], [263, 264, 124], [423, 270, 125], [425, 426, 130], [447, 448, 131], [480, 481, 132], [], []] (by decide +kernel)
set_option maxRecDepth 100000 in
set_option maxHeartbeats 4000000 in
theorem mn_ok11 : ∀ e ∈ mnTab 11, ∀ w ∈ mnw 11 e, w ∈ lw_tbl ∧ goodWord w = true := mchkn_ok 11 _ [] (by decide +kernel)
set_option maxRecDepth 100000 in
set_option maxHeartbeats 4000000 in
theorem mn_ok12 : ∀ e ∈ mnTab 12, ∀ w ∈ mnw 12 e, w ∈ lw_tbl ∧ goodWord w = true := mchkn_ok 12 _ [[145, 146, 121], [], [], [1302, 1303, 133]] (by decide +kernel)
theorem mnT_ok : ∀ own, ∀ e ∈ mnTab own, ∀ w ∈ mnw own e, w ∈ lw_tbl ∧ goodWord w = true
  | 0 => mn_ok0
  | 1 => mn_ok1
  | 2 => mn_ok2
  | 3 => mn_ok3
  | 4 => mn_ok4
  | 5 => mn_ok5
  | 6 => mn_ok6
  | 7 => mn_ok7
  | 8 => mn_ok8
  | 9 => mn_ok9
  | 10 => mn_ok10
  | 11 => mn_ok11
  | 12 => mn_ok12
  | _ + 13 => fun _ h => by first | (cases h; done) | (exact absurd h (by decide))
set_option maxRecDepth 100000 in
set_option maxHeartbeats 4000000 in
theorem mu_ok0 : ∀ w ∈ u_ws (mcn 0) (mtx 0) (mnum 0), w ∈ lw_tbl ∧ goodWord w = true := mchkw_ok _ [389, 391, 393, 395] (by decide +kernel)
set_option maxRecDepth 100000 in
set_option maxHeartbeats 4000000 in
theorem mu_ok1 : ∀ w ∈ u_ws (mcn 1) (mtx 1) (mnum 1), w ∈ lw_tbl ∧ goodWord w = true := mchkw_ok _ [410, 412, 414, 416, 418, 420] (by decide +kernel)
set_option maxRecDepth 100000 in
set_option maxHeartbeats 4000000 in
theorem mu_ok2 : ∀ w ∈ u_ws (mcn 2) (mtx 2) (mnum 2), w ∈ lw_tbl ∧ goodWord w = true := mchkw_ok _ [488] (by decide +kernel)
set_option maxRecDepth 100000 in
set_option maxHeartbeats 4000000 in
theorem mu_ok3 : ∀ w ∈ u_ws (mcn 3) (mtx 3) (mnum 3), w ∈ lw_tbl ∧ goodWord w = true := mchkw_ok _ [436, 438, 440, 442, 444] (by decide +kernel)
set_option maxRecDepth 100000 in
set_option maxHeartbeats 4000000 in
theorem mu_ok4 : ∀ w ∈ u_ws (mcn 4) (mtx 4) (mnum 4), w ∈ lw_tbl ∧ goodWord w = true := mchkw_ok _ [465, 467, 469, 471, 473, 475, 477] (by decide +kernel)
set_option maxRecDepth 100000 in
set_option maxHeartbeats 4000000 in
theorem mu_ok5 : ∀ w ∈ u_ws (mcn 5) (mtx 5) (mnum 5), w ∈ lw_tbl ∧ goodWord w = true := mchkw_ok _ [200, 202, 204, 206, 208, 210, 212, 214, 216, 218, 220, 222] (by decide +kernel)
set_option maxRecDepth 100000 in
set_option maxHeartbeats 4000000 in
theorem mu_ok6 : ∀ w ∈ u_ws (mcn 6) (mtx 6) (mnum 6), w ∈ lw_tbl ∧ goodWord w = true := mchkw_ok _ [297, 299, 301] (by decide +kernel)
set_option maxRecDepth 100000 in
set_option maxHeartbeats 4000000 in
theorem mu_ok7 : ∀ w ∈ u_ws (mcn 7) (mtx 7) (mnum 7), w ∈ lw_tbl ∧ goodWord w = true := mchkw_ok _ [351, 353, 355, 357, 359, 361, 363, 365, 367, 369, 371, 373] (by decide +kernel)
set_option maxRecDepth 100000 in
set_option maxHeartbeats 4000000 in
theorem mu_ok8 : ∀ w ∈ u_ws (mcn 8) (mtx 8) (mnum 8), w ∈ lw_tbl ∧ goodWord w = true := mchkw_ok _ [245, 247, 249, 251, 253, 255, 257, 259] (by decide +kernel)
set_option maxRecDepth 100000 in
set_option maxHeartbeats 4000000 in
theorem mu_ok9 : ∀ w ∈ u_ws (mcn 9) (mtx 9) (mnum 9), w ∈ lw_tbl ∧ goodWord w = true := mchkw_ok _ [317] (by decide +kernel)
set_option maxRecDepth 100000 in
set_option maxHeartbeats 4000000 in
theorem mu_ok10 : ∀ w ∈ u_ws (mcn 10) (mtx 10) (mnum 10), w ∈ lw_tbl ∧ goodWord w = true := mchkw_ok _ [504, 506, 508, 510, 512, 514, 516, 518, 520, 522, 524, 526, 528] (by decide +kernel)
set_option maxRecDepth 100000 in
set_option maxHeartbeats 4000000 in
theorem mu_ok11 : ∀ w ∈ u_ws (mcn 11) (mtx 11) (mnum 11), w ∈ lw_tbl ∧ goodWord w = true := mchkw_ok _ [1372, 1374, 1376, 1378, 1380, 1382, 1384, 1386, 1388, 1390, 1392, 1394, 1396, 1398, 1400, 1402, 1404, 1406, 1408, 1410, 1412, 1414, 1416, 1418, 1420, 1422, 1424, 1426, 1428, 1430, 1432, 1434, 1436, 1438, 1440, 1442, 1444, 1446, 1448, 1450, 1452, 1454, 1456, 1458, 1460, 1462, 1464, 1466, 1468, 1470, 1472, 1474, 1476, 1478, 1480, 1482, 1484, 1486, 1488] (by decide +kernel)
theorem mu_ok : ∀ c, c < 12 → ∀ w ∈ u_ws (mcn c) (mtx c) (mnum c), w ∈ lw_tbl ∧ goodWord w = true
  | 0, _ => mu_ok0
  | 1, _ => mu_ok1
  | 2, _ => mu_ok2
  | 3, _ => mu_ok3
  | 4, _ => mu_ok4
  | 5, _ => mu_ok5
  | 6, _ => mu_ok6
  | 7, _ => mu_ok7
  | 8, _ => mu_ok8
  | 9, _ => mu_ok9
  | 10, _ => mu_ok10
  | 11, _ => mu_ok11
  | n + 12, h => absurd h (by omega)
theorem mcl_at : ∀ c, c < 12 → ([(RX0, TX0, 4), (RX1, TX1, 6), (RX2, TX2, 1), (RX3, TX3, 5), (RX4, TX4, 7), (RX5, TX5, 12), (RX6, TX6, 3), (RX7, TX7, 12), (RX8, TX8, 8), (RX9, TX9, 1), (RX10, TX10, 13), (RX11, TX11, 59), ("java/util/NoSuchElementException", TX2, 0), ("java/lang/IllegalArgumentException", TX2, 0)] : List vw_C)[c]? = some (mcn c, mtx c, mnum c)
  | 0, _ => rfl
  | 1, _ => rfl
  | 2, _ => rfl
  | 3, _ => rfl
  | 4, _ => rfl
  | 5, _ => rfl
  | 6, _ => rfl
  | 7, _ => rfl
  | 8, _ => rfl
  | 9, _ => rfl
  | 10, _ => rfl
  | 11, _ => rfl
  | n + 12, h => absurd h (by omega)
theorem mty_ok : ∀ c, c < 12 → ∀ k, k < mnum c → parseFieldDescriptor (mtx c k).2.2.1 = some (mty c k)
  | 0, _ => tyX0_ok
  | 1, _ => tyX1_ok
  | 2, _ => tyX2_ok
  | 3, _ => tyX3_ok
  | 4, _ => tyX4_ok
  | 5, _ => tyX5_ok
  | 6, _ => tyX6_ok
  | 7, _ => tyX7_ok
  | 8, _ => tyX8_ok
  | 9, _ => tyX9_ok
  | 10, _ => tyX10_ok
  | 11, _ => tyX11_ok
  | n + 12, h => absurd h (by omega)
theorem mnm_ok : ∀ c, c < 12 → ∀ a, a < mnum c → ∀ b, b < mnum c → a ≠ b → (mtx c a).2.1 ≠ (mtx c b).2.1
  | 0, _ => nmX0
  | 1, _ => nmX1
  | 2, _ => nmX2
  | 3, _ => nmX3
  | 4, _ => nmX4
  | 5, _ => nmX5
  | 6, _ => nmX6
  | 7, _ => nmX7
  | 8, _ => nmX8
  | 9, _ => nmX9
  | 10, _ => nmX10
  | 11, _ => nmX11
  | n + 12, h => absurd h (by omega)
set_option maxRecDepth 100000 in
theorem mdf_ok : ∀ c, c < 12 → ∀ k, k < mnum c → (mdf c)[k]? = some (defaultValue (mty c k)) := by decide +kernel
theorem mdf_len : ∀ c, c < 12 → (mdf c).length = mnum c := by decide +kernel
set_option maxRecDepth 100000 in
theorem mtx_own : ∀ c, c < 12 → ∀ k, k < mnum c → (mtx c k).1 = mcn c := by decide +kernel
set_option maxRecDepth 100000 in
set_option maxHeartbeats 4000000 in
theorem mr_ok0 : ∀ e ∈ mfTab 0, e.2.1 < 12 ∧ e.2.2 < mnum e.2.1 := by decide +kernel
set_option maxRecDepth 100000 in
set_option maxHeartbeats 4000000 in
theorem mr_ok1 : ∀ e ∈ mfTab 1, e.2.1 < 12 ∧ e.2.2 < mnum e.2.1 := by decide +kernel
set_option maxRecDepth 100000 in
set_option maxHeartbeats 4000000 in
theorem mr_ok2 : ∀ e ∈ mfTab 2, e.2.1 < 12 ∧ e.2.2 < mnum e.2.1 := by decide +kernel
set_option maxRecDepth 100000 in
set_option maxHeartbeats 4000000 in
theorem mr_ok3 : ∀ e ∈ mfTab 3, e.2.1 < 12 ∧ e.2.2 < mnum e.2.1 := by decide +kernel
set_option maxRecDepth 100000 in
set_option maxHeartbeats 4000000 in
theorem mr_ok4 : ∀ e ∈ mfTab 4, e.2.1 < 12 ∧ e.2.2 < mnum e.2.1 := by decide +kernel
set_option maxRecDepth 100000 in
set_option maxHeartbeats 4000000 in
theorem mr_ok5 : ∀ e ∈ mfTab 5, e.2.1 < 12 ∧ e.2.2 < mnum e.2.1 := by decide +kernel
set_option maxRecDepth 100000 in
set_option maxHeartbeats 4000000 in
theorem mr_ok6 : ∀ e ∈ mfTab 6, e.2.1 < 12 ∧ e.2.2 < mnum e.2.1 := by decide +kernel
set_option maxRecDepth 100000 in
set_option maxHeartbeats 4000000 in
theorem mr_ok7 : ∀ e ∈ mfTab 7, e.2.1 < 12 ∧ e.2.2 < mnum e.2.1 := by decide +kernel
set_option maxRecDepth 100000 in
set_option maxHeartbeats 4000000 in
theorem mr_ok8 : ∀ e ∈ mfTab 8, e.2.1 < 12 ∧ e.2.2 < mnum e.2.1 := by decide +kernel
set_option maxRecDepth 100000 in
set_option maxHeartbeats 4000000 in
theorem mr_ok9 : ∀ e ∈ mfTab 9, e.2.1 < 12 ∧ e.2.2 < mnum e.2.1 := by decide +kernel
set_option maxRecDepth 100000 in
set_option maxHeartbeats 4000000 in
theorem mr_ok10 : ∀ e ∈ mfTab 10, e.2.1 < 12 ∧ e.2.2 < mnum e.2.1 := by decide +kernel
set_option maxRecDepth 100000 in
set_option maxHeartbeats 4000000 in
theorem mr_ok11 : ∀ e ∈ mfTab 11, e.2.1 < 12 ∧ e.2.2 < mnum e.2.1 := by decide +kernel
set_option maxRecDepth 100000 in
set_option maxHeartbeats 4000000 in
theorem mr_ok12 : ∀ e ∈ mfTab 12, e.2.1 < 12 ∧ e.2.2 < mnum e.2.1 := by decide +kernel
theorem mr_ok : ∀ own, ∀ e ∈ mfTab own, e.2.1 < 12 ∧ e.2.2 < mnum e.2.1
  | 0 => mr_ok0
  | 1 => mr_ok1
  | 2 => mr_ok2
  | 3 => mr_ok3
  | 4 => mr_ok4
  | 5 => mr_ok5
  | 6 => mr_ok6
  | 7 => mr_ok7
  | 8 => mr_ok8
  | 9 => mr_ok9
  | 10 => mr_ok10
  | 11 => mr_ok11
  | 12 => mr_ok12
  | _ + 13 => fun _ h => by first | (cases h; done) | (exact absurd h (by decide))
theorem ma_int : (.arrayClass .int : Cond) ∈ lw_tbl := List.mem_of_getElem? (i := 225) (by decide +kernel)
theorem ma_byte : (.arrayClass .byte : Cond) ∈ lw_tbl := List.mem_of_getElem? (i := 262) (by decide +kernel)
theorem ma_long : (.arrayClass .long : Cond) ∈ lw_tbl := List.mem_of_getElem? (i := 531) (by decide +kernel)

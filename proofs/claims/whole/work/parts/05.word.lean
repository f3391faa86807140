/-! ===== the words of the tables, by their places ===== -/
def am_TB : List Cond := lw_tbl.filter goodWord
theorem am_nth_mem {α : Type} : ∀ (l : List α) (k : Nat) {a : α}, am_nth l k = some a → a ∈ l
  | [], _, _, h => by cases h
  | b :: r, 0, a, h => by cases h; exact List.mem_cons_self
  | b :: r, k + 1, a, h => List.mem_cons_of_mem _ (am_nth_mem r k h)
theorem am_tab_mem {p : Nat} {w : Cond} (h : am_tab p = some w) : w ∈ lw_tbl := by
  unfold am_tab at h
  unfold lw_tbl
  rw [List.mem_append]
  split at h
  all_goals first
    | (right; unfold tables_1; simp only [List.mem_append]; have h2 := am_nth_mem _ _ h; simp only [h2, true_or, or_true]; done)
    | skip
  left
  cases hq : am_nth lw_privs (p - 10000) with
  | none => rw [hq] at h; cases h
  | some q =>
    rw [hq] at h
    cases h
    unfold k2_sels
    exact List.mem_map.mpr ⟨q, am_nth_mem _ _ hq, rfl⟩
def am_wd (p : Nat) (w : Cond) : Bool := decide (am_tab p = some w) && goodWord w
theorem am_wd_ok {p : Nat} {w : Cond} (h : am_wd p w = true) : w ∈ am_TB := by
  unfold am_wd at h
  rw [Bool.and_eq_true] at h
  exact List.mem_filter.mpr ⟨am_tab_mem (of_decide_eq_true h.1), h.2⟩
theorem am_TB_good {ws : List Cond} (h : ∀ w ∈ ws, w ∈ am_TB) : GoodIn am_TB ws := fun w hw => ⟨h w hw, good_of_word (List.mem_filter.mp (h w hw)).2⟩
def am_chkM (mr : am_Mr) : Bool :=
  (Nat.beq mr.2.2.2.2.2.1 3 || (am_wd mr.2.2.2.2.2.2.2.1 (.code mr.1 mr.2.1 mr.2.2.1 mr.2.2.2.1) && (am_wd mr.2.2.2.2.2.2.2.2.1 (.initialized mr.1.cls) && (am_wd mr.2.2.2.2.2.2.2.2.2.1 (bif Nat.beq mr.2.2.2.2.2.1 1 then .static mr.1 else .instanceMethod mr.1) && ((!(Nat.beq mr.2.2.2.2.2.1 0)) || am_wd mr.2.2.2.2.2.2.2.2.2.2 (.selects mr.1.cls mr.1 mr.1))))))
  && (plainName mr.1.cls && (decide (mr.1.cls ≠ "java/lang/invoke/MethodHandle") && (decide (mr.1.cls ≠ "java/lang/invoke/VarHandle") && (decide ((parseMethodDescriptor mr.1.desc).map (fun d => d.parameters.length) = some mr.2.2.2.2.1) && (decide (am_nth am_own mr.2.2.2.2.2.2.1 = some mr.1.cls) && ((!(Nat.beq mr.2.2.2.2.2.1 2)) || decide (mr.1.name = "<init>"))))))
    && (Nat.ble mr.2.2.1 40))
set_option maxRecDepth 100000 in
theorem am_M_ok : am_PM.all (fun q => am_chkM q.1) = true := by decide +kernel
def am_on (k : Nat) : String := (am_nth am_own k).getD ""
def am_cls (ci : Nat) : vw_C := (am_nth vwCl ci).getD (RX0, TX0, 0)
def am_chkF (q : Nat × Nat × Nat × Nat) : Bool := Nat.blt q.2.1 13 && (Nat.blt q.2.2.1 (am_cls q.2.1).2.2 && am_wd q.2.2.2 (.fieldLink (am_on (q.1 / 100000)) (q.1 % 100000) ((am_cls q.2.1).2.1 q.2.2.1).1 ((am_cls q.2.1).2.1 q.2.2.1).2.1 ((am_cls q.2.1).2.1 q.2.2.1).2.2.1))
set_option maxRecDepth 100000 in
theorem am_F_ok : am_FL.all am_chkF = true := by decide +kernel
def am_jn (k : Nat) : MethodName := match k with
  | 10 => Lib.Math.max.name
  | 11 => Lib.Math.min.name
  | 12 => Lib.Math.abs.name
  | 13 => arraycopyName
  | 14 => Lib.MathLoose.max_long.x
  | 15 => Lib.MathLoose.min_long.x
  | 16 => objectInit
  | 17 => ⟨"java/lang/String", "length", "()I"⟩
  | 18 => ⟨"java/lang/String", "charAt", "(I)C"⟩
  | _ => objectInit
def am_chkL (q : Nat × Nat × Nat × Nat) : Bool :=
  bif Nat.ble 10 q.2.2.1 then am_wd q.2.2.2 (.methodLink (am_on (q.1 / 100000)) (q.1 % 100000) (am_jn q.2.2.1))
  else bif Nat.beq q.2.2.1 4 then decide (am_tab q.2.2.2 = some (.methodLinkNest (am_on (q.1 / 100000)) (q.1 % 100000) ((am_nth am_PM q.2.1).getD (am_m0, [])).1.1 "CelloBoats")) && Nat.beq ((am_nth am_PM q.2.1).getD (am_m0, [])).1.2.2.2.2.2.1 2
  else am_wd q.2.2.2 (.methodLink (am_on (q.1 / 100000)) (q.1 % 100000) ((am_nth am_PM q.2.1).getD (am_m0, [])).1.1) && Nat.beq ((am_nth am_PM q.2.1).getD (am_m0, [])).1.2.2.2.2.2.1 q.2.2.1
set_option maxRecDepth 100000 in
theorem am_L_ok : am_ML.all am_chkL = true := by decide +kernel
def am_LP : List (List Nat) := [[272, 274, 276],
  [215, 217, 219, 221, 223, 225, 227, 229, 231, 233, 235, 237, 239, 241, 243],
  [390, 392, 394, 396, 398],
  [146, 148, 150, 152, 154, 156],
  [417, 419, 421, 423, 425, 427, 429],
  [335, 337, 339, 341, 343, 345, 347, 349, 351],
  [302, 304, 306, 308, 310, 312],
  [442, 444],
  [365, 367, 369, 371, 373],
  [102, 104, 106, 108, 110, 112, 114, 116, 118, 120, 122, 124],
  [255, 257, 259],
  [465, 467, 469, 471, 473, 475, 477, 479, 481, 483, 485, 487, 489, 491, 493, 495, 497, 499],
  [1286, 1288, 1290, 1292, 1294, 1296, 1298, 1300, 1302, 1304, 1306, 1308, 1310, 1312, 1314, 1316, 1318, 1320, 1322, 1324, 1326, 1328, 1330, 1332, 1334, 1336, 1338, 1340, 1342, 1344, 1346, 1348, 1350, 1352, 1354, 1356, 1358, 1360, 1362, 1364, 1366, 1368, 1370, 1372, 1374, 1376, 1378, 1380, 1382, 1384, 1386, 1388, 1390, 1392, 1394, 1396, 1398, 1400, 1402, 1404, 1406, 1408, 1410, 1412, 1414, 1416, 1418, 1420, 1422, 1424, 1426, 1428, 1430, 1432, 1434, 1436, 1438, 1440, 1442, 1444, 1446, 1448, 1450, 1452, 1454, 1456, 1458, 1460, 1462, 1464, 1466, 1468, 1470, 1472, 1474, 1476, 1478, 1480, 1482, 1484, 1486, 1488, 1490, 1492, 1494, 1496]]
def am_CP : List (Nat × Nat) := [(263, 10), (160, 8), (378, 14), (130, 7), (402, 15), (280, 11), (286, 12), (433, 16), (355, 13), (30, 2), (247, 9), (22, 1), (1175, 17)]
def am_tyk (t : Nat) (ty : FieldType) : Bool := match t, ty with
  | 0, .int => true
  | 1, .boolean => true
  | 2, .long => true
  | 3, .object _ => true
  | 3, .array _ => true
  | _, _ => false
def am_chkC (ci : Nat) : Bool :=
  am_wd ((am_nth am_CP ci).getD (0, 0)).1 (.instantiable (am_cls ci).1 (am_cls ci).2.2) && (am_wd ((am_nth am_CP ci).getD (0, 0)).2 (.initialized (am_cls ci).1) && (Nat.beq ((am_nth am_ft ci).getD []).length (am_cls ci).2.2 &&
  ((List.range (am_cls ci).2.2).all (fun k => am_wd ((am_nth ((am_nth am_LP ci).getD []) k).getD 0) (u_lay (am_cls ci).1 (am_cls ci).2.1 k) && (decide (((am_cls ci).2.1 k).1 = (am_cls ci).1) && (decide (((am_cls ci).2.1 k).2.2.2 = ((am_nth ((am_nth am_ft ci).getD []) k).getD (9, true)).2) &&
    ((parseFieldDescriptor ((am_cls ci).2.1 k).2.2.1).any (am_tyk ((am_nth ((am_nth am_ft ci).getD []) k).getD (9, true)).1) && decide (am_nth am_own ci = some (am_cls ci).1))))))))
set_option maxRecDepth 100000 in
theorem am_C_ok : (List.range 13).all am_chkC = true := by decide +kernel
set_option maxRecDepth 100000 in
theorem am_CL_ok : am_CL.all (fun q => am_wd q.2.2 (.classLink (am_on (q.1 / 100000)) (q.1 % 100000) (am_cls q.2.1).1) && Nat.blt q.2.1 13) = true := by decide +kernel
set_option maxRecDepth 100000 in
theorem am_KL_ok : am_KL.all (fun q => am_wd q.2.2 (.constant (am_on (q.1 / 100000)) (q.1 % 100000) (Int32.ofInt ((am_nth am_kc q.2.1).getD 0)))) = true := by decide +kernel
set_option maxRecDepth 100000 in
theorem am_JL_ok : am_JL.all (fun q => am_wd q.2.2 (.constantLong (am_on (q.1 / 100000)) (q.1 % 100000) (Int64.ofInt ((am_nth am_kl q.2.1).getD 0)))) = true := by decide +kernel
def am_jw : List (Nat × Cond) := [(824, .code Lib.Math.max.name Lib.Math.max.code 2 (some .int)),
  (823, .static Lib.Math.max.name),
  (18, .initialized "java/lang/Math"),
  (528, .code Lib.Math.min.name Lib.Math.min.code 2 (some .int)),
  (527, .static Lib.Math.min.name),
  (947, .code Lib.Math.abs.name Lib.Math.abs.code 1 (some .int)),
  (946, .static Lib.Math.abs.name),
  (1133, .code Lib.MathLoose.max_long.x Lib.MathLoose.max_long.code 4 (some .long)),
  (1132, .static Lib.MathLoose.max_long.x),
  (1136, .code Lib.MathLoose.min_long.x Lib.MathLoose.min_long.code 4 (some .long)),
  (1135, .static Lib.MathLoose.min_long.x),
  (734, .native arraycopyName),
  (733, .static arraycopyName),
  (20, .initialized "java/lang/System"),
  (27, .instanceMethod objectInit),
  (28, .code objectInit ⟨#[0xb1]⟩ 1 none),
  (127, .arrayClass .int),
  (376, .arrayClass .long),
  (1499, .arrayClass .char),
  (1500, .arrayClass .boolean)]
set_option maxRecDepth 100000 in
theorem am_jw_ok : am_jw.all (fun q => am_wd q.1 q.2) = true := by decide +kernel

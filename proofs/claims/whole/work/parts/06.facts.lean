/-! what the words of the tables give: every row of the tables of positions is backed by the Statement's words -/
theorem rx_look {β : Type} {l : List ((Nat × Nat) × β)} {k : Nat × Nat} {v : β} (h : l.lookup k = some v) : (k, v) ∈ l := by
  induction l with
  | nil => cases h
  | cons q t ih =>
    obtain ⟨a, w⟩ := q
    unfold List.lookup at h
    split at h
    · rename_i hk
      cases h
      have hk : k = a := by simpa using hk
      subst hk
      exact List.mem_cons_self
    · exact List.mem_cons_of_mem _ (ih h)
def rx_ws : List Cond := lw_tbl.filter goodWord
theorem rx_in {ws : List Cond} {ps : List Nat} (h : ws = ps.filterMap (fun k => lw_tbl[k]?)) (hg : ws.all goodWord = true) : ∀ w ∈ ws, w ∈ rx_ws := fun w hw => List.mem_filter.mpr ⟨rx_mem h w hw, List.all_eq_true.mp hg w hw⟩
theorem rx_good : ∀ w ∈ rx_ws, (w.onTables && w.keeps) = true ∨ ∃ ty, w = .arrayClass ty := fun _ hw => good_of_word (List.mem_filter.mp hw).2
theorem rx_GI {ws : List Cond} (h : ∀ w ∈ ws, w ∈ rx_ws) : GoodIn rx_ws ws := fun w hw => ⟨h w hw, rx_good w (h w hw)⟩
theorem rx_cws : ∀ i, i < 147 → rx_cwd i ∈ rx_ws := fun i hi => List.mem_filter.mpr ⟨rx_call i hi, rfl⟩
theorem rx_fws : ∀ q ∈ rx_fl, rx_fwd q ∈ rx_ws := fun q hq => rx_in rx_fok (by decide +kernel) _ (List.mem_map.mpr ⟨q, hq, rfl⟩)
theorem rx_nlws : ∀ q ∈ rx_nl, rx_nwd q ∈ rx_ws := fun q hq => rx_in rx_nok (by decide +kernel) _ (List.mem_map.mpr ⟨q, hq, rfl⟩)
theorem rx_kws : ∀ q ∈ rx_kl, rx_kwd q ∈ rx_ws := fun q hq => rx_in rx_kok (by decide +kernel) _ (List.mem_map.mpr ⟨q, hq, rfl⟩)
theorem rx_k2ws : ∀ q ∈ rx_k2, rx_k2wd q ∈ rx_ws := fun q hq => rx_in rx_k2ok (by decide +kernel) _ (List.mem_map.mpr ⟨q, hq, rfl⟩)
theorem rx_mlt : ∀ q ∈ rx_mll, rx_mwd q ∈ lw_tbl := fun q hq => rx_mem rx_mok _ (List.mem_map.mpr ⟨q, hq, rfl⟩)
theorem rx_mgw : rx_mll.all (fun q => q.2.2 == 3 || goodWord (rx_mwd q)) = true := by decide +kernel
theorem rx_mws : ∀ q ∈ rx_mll, ¬ q.2.2 = 3 → rx_mwd q ∈ rx_ws := fun q hq hn => by
  have h := List.all_eq_true.mp rx_mgw q hq
  simp only [Bool.or_eq_true, beq_iff_eq] at h
  exact List.mem_filter.mpr ⟨rx_mlt q hq, h.resolve_left hn⟩
def rx_vj : List Nat := [1, 2, 3, 4, 5, 6, 7, 8, 9, 10, 12, 13, 14, 15, 17, 18, 19, 20, 21, 23, 24, 25, 26, 27, 28, 29, 32, 33, 34, 35, 36, 37, 38, 39, 40, 41, 43, 44, 45, 46, 47, 49, 50, 51, 52, 53, 55, 56, 57, 58, 59, 60, 61, 62, 64, 65, 66, 67, 68, 69, 70, 71, 72, 73, 74, 75, 76, 77, 78, 79, 80, 81, 82, 83, 84, 85, 86, 87, 88, 89, 90, 91, 92, 93, 94, 95, 96, 98, 99, 100, 101, 102, 103, 104, 105, 106, 110, 111, 112, 113, 114, 115, 116, 117, 118, 119, 120, 121, 122, 123, 124, 125, 126, 127, 128, 129, 131, 132, 133, 134, 135, 136, 137, 138, 139, 140, 141, 142]
def rx_ij : List Nat := [0, 11, 16, 22, 30, 42, 48, 54, 63, 107]
def rx_sj : List Nat := [31, 97, 108, 109, 130, 143, 144, 145, 146]
def rx_vps1 : List Nat := [275, 279, 271, 459, 463, 471, 476, 485, 283, 400, 542, 546, 526, 530, 644, 623, 627, 632, 267, 340, 303, 429, 336, 332, 388, 287, 605, 609, 613, 589, 563, 574, 578, 585, 597, 568, 451, 442, 518, 446, 263, 377, 247, 640, 381, 417, 316, 299, 324, 328, 320, 307, 344, 369, 239, 356, 404, 408, 413, 421, 425, 433, 437, 455, 467, 481, 490, 494, 502, 506, 510, 554, 558, 593, 601, 619, 636, 244, 252, 292, 296, 313, 349, 353, 260, 256, 499, 364, 374, 393, 551, 397, 515, 523, 535, 539, 770, 766, 774, 797, 762, 754, 778, 782, 793, 785, 800, 804, 808, 812, 816, 820, 824, 828, 832, 836, 840, 848, 852, 856, 860, 864, 874, 868, 877, 881, 885, 889]
def rx_vps2 : List Nat := [276, 280, 272, 460, 464, 472, 477, 486, 284, 401, 543, 547, 527, 531, 645, 624, 628, 633, 268, 341, 304, 430, 337, 333, 389, 288, 606, 610, 614, 590, 564, 575, 579, 586, 598, 19, 452, 443, 519, 447, 264, 378, 248, 641, 382, 418, 317, 300, 325, 329, 321, 308, 345, 370, 240, 357, 405, 409, 414, 422, 426, 434, 438, 456, 468, 482, 491, 495, 503, 507, 511, 555, 559, 594, 602, 620, 637, 0, 1, 4, 5, 6, 7, 8, 3, 2, 13, 9, 10, 11, 18, 12, 14, 15, 16, 17, 22, 21, 23, 27, 20, 755, 24, 25, 26, 786, 801, 805, 809, 813, 817, 821, 825, 829, 833, 837, 841, 849, 853, 857, 861, 865, 28, 869, 878, 882, 886, 890]
def rx_ips : List Nat := [69, 137, 150, 58, 166, 87, 121, 101, 44, 653]
def rx_sps : List Nat := [571, 360, 758, 789, 844, 385, 53, 50, 648]
def rx_ops : List Nat := [33, 37, 38, 32, 39, 34, 36, 35, 30, 40, 31, 29]
set_option maxRecDepth 100000 in
theorem rx_vok1 : rx_vj.map (fun j => Cond.instanceMethod (rx_y j)) = rx_vps1.filterMap (fun k => lw_tbl[k]?) := by decide +kernel
set_option maxRecDepth 100000 in
theorem rx_vok2 : rx_vj.map (fun j => Cond.selects (rx_y j).cls (rx_y j) (rx_y j)) = rx_vps2.filterMap (fun k => lw_tbl[k]?) := by decide +kernel
set_option maxRecDepth 100000 in
theorem rx_iok : rx_ij.map (fun j => Cond.instanceMethod (rx_y j)) = rx_ips.filterMap (fun k => lw_tbl[k]?) := by decide +kernel
set_option maxRecDepth 100000 in
theorem rx_sok : rx_sj.map (fun j => Cond.static (rx_y j)) = rx_sps.filterMap (fun k => lw_tbl[k]?) := by decide +kernel
set_option maxRecDepth 100000 in
theorem rx_ook : (List.range 12).map (fun o => Cond.initialized (rx_on o)) = rx_ops.filterMap (fun k => lw_tbl[k]?) := by decide +kernel
theorem rx_vw1 : ∀ j ∈ rx_vj, Cond.instanceMethod (rx_y j) ∈ rx_ws := fun j hj => rx_in rx_vok1 (by decide +kernel) _ (List.mem_map.mpr ⟨j, hj, rfl⟩)
theorem rx_vw2 : ∀ j ∈ rx_vj, Cond.selects (rx_y j).cls (rx_y j) (rx_y j) ∈ rx_ws := fun j hj => rx_in rx_vok2 (by decide +kernel) _ (List.mem_map.mpr ⟨j, hj, rfl⟩)
theorem rx_iw : ∀ j ∈ rx_ij, Cond.instanceMethod (rx_y j) ∈ rx_ws := fun j hj => rx_in rx_iok (by decide +kernel) _ (List.mem_map.mpr ⟨j, hj, rfl⟩)
theorem rx_sw : ∀ j ∈ rx_sj, Cond.static (rx_y j) ∈ rx_ws := fun j hj => rx_in rx_sok (by decide +kernel) _ (List.mem_map.mpr ⟨j, hj, rfl⟩)
theorem rx_ow_w : ∀ o, o < 12 → Cond.initialized (rx_on o) ∈ rx_ws := fun o ho => rx_in rx_ook (by decide +kernel) _ (List.mem_map.mpr ⟨o, List.mem_range.mpr ho, rfl⟩)
/-- every method's row: its class's name, its arguments, plain names -/
def rx_jok (j : Nat) : Bool := ((rx_y j).cls == rx_on (rx_ow j)) && decide (rx_ow j < 12) && ((rx_y j).cls != "java/lang/invoke/MethodHandle") && ((rx_y j).cls != "java/lang/invoke/VarHandle") && plainFor (rx_y j) && decide (rx_na j ≤ rx_ml j)
set_option maxRecDepth 100000 in
theorem rx_jall : (List.range 147).all rx_jok = true := by decide +kernel
/-- every call's row: its target, by the call's kind -/
def rx_kok2 (q : (Nat × Nat) × (Nat × Nat)) : Bool := if q.2.2 = 4 then true else decide (q.2.1 < 147) && (if q.2.2 = 0 then decide (q.2.1 ∈ rx_vj) && ((parseMethodDescriptor (rx_y q.2.1).desc).map (fun d => d.parameters.length + 1) == some (rx_na q.2.1))
  else if q.2.2 = 1 then decide (q.2.1 ∈ rx_sj) && ((parseMethodDescriptor (rx_y q.2.1).desc).map (fun d => d.parameters.length) == some (rx_na q.2.1))
  else decide (q.2.1 ∈ rx_ij) && ((parseMethodDescriptor (rx_y q.2.1).desc).map (fun d => d.parameters.length + 1) == some (rx_na q.2.1)) && ((rx_y q.2.1).name == "<init>") && (rx_rt q.2.1 == none))
set_option maxRecDepth 100000 in
theorem rx_kall : rx_mll.all rx_kok2 = true := by decide +kernel
def rx_nws : List Cond := (rx_mll.filter (fun q => q.2.2 == 3)).map rx_mwd
theorem rx_nws_tb : ∀ w ∈ rx_nws, w ∈ lw_tbl := fun w hw => by
  obtain ⟨q, hq, rfl⟩ := List.mem_map.mp hw
  exact rx_mlt q (List.mem_filter.mp hq).1
theorem rx_ao_tb : Cond.arrayOver (.array .int) ∈ lw_tbl := List.mem_of_getElem? (i := 73) (by decide +kernel)
theorem rx_acI : Cond.arrayClass .int ∈ rx_ws := List.mem_filter.mpr ⟨List.mem_of_getElem? (i := 65) (by decide +kernel), rfl⟩
theorem rx_acZ : Cond.arrayClass .boolean ∈ rx_ws := List.mem_filter.mpr ⟨List.mem_of_getElem? (i := 182) (by decide +kernel), rfl⟩
theorem rx_clA : Cond.classLink "ZStreams$Files" 18 "[[I" ∈ rx_ws := List.mem_filter.mpr ⟨List.mem_of_getElem? (i := 72) (by decide +kernel), by decide +kernel⟩
theorem rx_ob1 : Cond.instanceMethod objectInit ∈ rx_ws := List.mem_filter.mpr ⟨List.mem_of_getElem? (i := 47) (by decide +kernel), by decide +kernel⟩
theorem rx_ob2 : Cond.code objectInit ⟨#[0xb1]⟩ 1 none ∈ rx_ws := List.mem_filter.mpr ⟨List.mem_append_right _ (List.mem_append_left _ (List.mem_of_getElem? (i := 19) rfl)), rfl⟩
/-- what is known of a class of objects: its number, name, fields -/
def rx_CF (ci : Nat) (C : String) (T : u_T) (N : Nat) (ty : Nat → FieldType) : Prop := vwCl[ci]? = some (C, T, N) ∧ C = rx_on ci ∧ (∀ w ∈ u_ws C T N, w ∈ rx_ws) ∧ (∀ k, k < N → parseFieldDescriptor (T k).2.2.1 = some (ty k)) ∧ (∀ a, a < N → ∀ b, b < N → a ≠ b → (T a).2.1 ≠ (T b).2.1) ∧ Cond.instantiable C N ∈ rx_ws ∧ (rx_df.getD ci []).length = N ∧ (∀ j, j < N → defaultValue (ty j) = vp_V (rx_df.getD ci []) j) ∧ (∀ k, k < N → (T k).1 = C)
set_option maxRecDepth 100000 in
theorem rx_lw0 : wsX00 = [77, 79, 81].filterMap (fun k => lw_tbl[k]?) := by decide +kernel
set_option maxRecDepth 100000 in
theorem rx_cf0 : rx_CF 0 RX0 TX0 3 tyX0 := ⟨rfl, rfl, rx_in rx_lw0 (by decide +kernel), tyX0_ok, nmX0, List.mem_filter.mpr ⟨List.mem_of_getElem? (i := 67) (by decide +kernel), by decide +kernel⟩, by decide +kernel, by decide +kernel, by decide +kernel⟩
set_option maxRecDepth 100000 in
theorem rx_lw1 : wsX10 = [142, 144].filterMap (fun k => lw_tbl[k]?) := by decide +kernel
set_option maxRecDepth 100000 in
theorem rx_cf1 : rx_CF 1 RX1 TX1 2 tyX1 := ⟨rfl, rfl, rx_in rx_lw1 (by decide +kernel), tyX1_ok, nmX1, List.mem_filter.mpr ⟨List.mem_of_getElem? (i := 135) (by decide +kernel), by decide +kernel⟩, by decide +kernel, by decide +kernel, by decide +kernel⟩
set_option maxRecDepth 100000 in
theorem rx_lw2 : wsX20 = [156, 158, 160].filterMap (fun k => lw_tbl[k]?) := by decide +kernel
set_option maxRecDepth 100000 in
theorem rx_cf2 : rx_CF 2 RX2 TX2 3 tyX2 := ⟨rfl, rfl, rx_in rx_lw2 (by decide +kernel), tyX2_ok, nmX2, List.mem_filter.mpr ⟨List.mem_of_getElem? (i := 148) (by decide +kernel), by decide +kernel⟩, by decide +kernel, by decide +kernel, by decide +kernel⟩
set_option maxRecDepth 100000 in
theorem rx_lw3 : wsX30 = [62].filterMap (fun k => lw_tbl[k]?) := by decide +kernel
set_option maxRecDepth 100000 in
theorem rx_cf3 : rx_CF 3 RX3 TX3 1 tyX3 := ⟨rfl, rfl, rx_in rx_lw3 (by decide +kernel), tyX3_ok, nmX3, List.mem_filter.mpr ⟨List.mem_of_getElem? (i := 56) (by decide +kernel), by decide +kernel⟩, by decide +kernel, by decide +kernel, by decide +kernel⟩
set_option maxRecDepth 100000 in
theorem rx_lw4 : wsX40 = [173, 175, 177, 179].filterMap (fun k => lw_tbl[k]?) := by decide +kernel
set_option maxRecDepth 100000 in
theorem rx_cf4 : rx_CF 4 RX4 TX4 4 tyX4 := ⟨rfl, rfl, rx_in rx_lw4 (by decide +kernel), tyX4_ok, nmX4, List.mem_filter.mpr ⟨List.mem_of_getElem? (i := 164) (by decide +kernel), by decide +kernel⟩, by decide +kernel, by decide +kernel, by decide +kernel⟩
set_option maxRecDepth 100000 in
theorem rx_lw5 : wsX50 = [93, 95].filterMap (fun k => lw_tbl[k]?) := by decide +kernel
set_option maxRecDepth 100000 in
theorem rx_cf5 : rx_CF 5 RX5 TX5 2 tyX5 := ⟨rfl, rfl, rx_in rx_lw5 (by decide +kernel), tyX5_ok, nmX5, List.mem_filter.mpr ⟨List.mem_of_getElem? (i := 85) (by decide +kernel), by decide +kernel⟩, by decide +kernel, by decide +kernel, by decide +kernel⟩
set_option maxRecDepth 100000 in
theorem rx_lw6 : wsX60 = [127, 129, 131].filterMap (fun k => lw_tbl[k]?) := by decide +kernel
set_option maxRecDepth 100000 in
theorem rx_cf6 : rx_CF 6 RX6 TX6 3 tyX6 := ⟨rfl, rfl, rx_in rx_lw6 (by decide +kernel), tyX6_ok, nmX6, List.mem_filter.mpr ⟨List.mem_of_getElem? (i := 119) (by decide +kernel), by decide +kernel⟩, by decide +kernel, by decide +kernel, by decide +kernel⟩
set_option maxRecDepth 100000 in
theorem rx_lw7 : wsX70 = [109, 111, 113, 115].filterMap (fun k => lw_tbl[k]?) := by decide +kernel
set_option maxRecDepth 100000 in
theorem rx_cf7 : rx_CF 7 RX7 TX7 4 tyX7 := ⟨rfl, rfl, rx_in rx_lw7 (by decide +kernel), tyX7_ok, nmX7, List.mem_filter.mpr ⟨List.mem_of_getElem? (i := 99) (by decide +kernel), by decide +kernel⟩, by decide +kernel, by decide +kernel, by decide +kernel⟩
set_option maxRecDepth 100000 in
theorem rx_lw8 : wsX80 = [201, 203, 205, 207, 209, 211, 213, 215, 217, 219, 221, 223, 225, 227, 229, 231, 233, 235].filterMap (fun k => lw_tbl[k]?) := by decide +kernel
set_option maxRecDepth 100000 in
theorem rx_cf8 : rx_CF 8 RX8 TX8 18 tyX8 := ⟨rfl, rfl, rx_in rx_lw8 (by decide +kernel), tyX8_ok, nmX8, List.mem_filter.mpr ⟨List.mem_of_getElem? (i := 42) (by decide +kernel), by decide +kernel⟩, by decide +kernel, by decide +kernel, by decide +kernel⟩
set_option maxRecDepth 100000 in
theorem rx_lw9 : wsX90 = [688, 690, 692, 694, 696, 698, 700, 702, 704, 706, 708, 710, 712, 714, 716, 718, 720, 722, 724, 726, 728, 730, 732, 734, 736, 738, 740, 742, 744, 746, 748, 750].filterMap (fun k => lw_tbl[k]?) := by decide +kernel
set_option maxRecDepth 100000 in
theorem rx_cf9 : rx_CF 9 RX9 TX9 32 tyX9 := ⟨rfl, rfl, rx_in rx_lw9 (by decide +kernel), tyX9_ok, nmX9, List.mem_filter.mpr ⟨List.mem_of_getElem? (i := 651) (by decide +kernel), by decide +kernel⟩, by decide +kernel, by decide +kernel, by decide +kernel⟩
theorem rx_cf : ∀ ci, ci < 10 → ∃ C T N ty, rx_CF ci C T N ty := by
  intro ci h
  match ci, h with
  | 0, _ => exact ⟨_, _, _, _, rx_cf0⟩
  | 1, _ => exact ⟨_, _, _, _, rx_cf1⟩
  | 2, _ => exact ⟨_, _, _, _, rx_cf2⟩
  | 3, _ => exact ⟨_, _, _, _, rx_cf3⟩
  | 4, _ => exact ⟨_, _, _, _, rx_cf4⟩
  | 5, _ => exact ⟨_, _, _, _, rx_cf5⟩
  | 6, _ => exact ⟨_, _, _, _, rx_cf6⟩
  | 7, _ => exact ⟨_, _, _, _, rx_cf7⟩
  | 8, _ => exact ⟨_, _, _, _, rx_cf8⟩
  | 9, _ => exact ⟨_, _, _, _, rx_cf9⟩
  | k + 10, h => exact absurd h (by omega)
/-- every field's row: its slot, type, finality -/
def rx_fok2 (q : (Nat × Nat) × (Nat × Nat × Nat × Nat)) : Bool := match vwCl[q.2.1]? with
  | some (_, T, N) => decide (q.2.1 < 10) && decide (q.2.2.1 < N) && ((T q.2.2.1).2.2.2 == (q.2.2.2.2 == 1)) && (match parseFieldDescriptor (T q.2.2.1).2.2.1 with
    | some .int => q.2.2.2.1 == 0
    | some .boolean => q.2.2.2.1 == 1
    | some (.object _) => q.2.2.2.1 == 2
    | some (.array _) => q.2.2.2.1 == 2
    | _ => false)
  | none => false
set_option maxRecDepth 100000 in
theorem rx_fall : rx_fl.all rx_fok2 = true := by decide +kernel
theorem rx_nlall : rx_nl.all (fun q => decide (q.2 < 10)) = true := by decide +kernel

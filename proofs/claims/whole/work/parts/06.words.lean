/-! the words of the tables, by their places -/
theorem w_fl : ∀ e ∈ am_fl, Jvm.Cond.fieldLink (am_own e.1) e.2.1 (am_ft e.2.2.1 e.2.2.2).1 (am_ft e.2.2.1 e.2.2.2).2.1 (am_ft e.2.2.1 e.2.2.2).2.2.1 ∈ am_tw := am_wall (fun e : Nat × Nat × Nat × Nat => Jvm.Cond.fieldLink (am_own e.1) e.2.1 (am_ft e.2.2.1 e.2.2.2).1 (am_ft e.2.2.1 e.2.2.2).2.1 (am_ft e.2.2.1 e.2.2.2).2.2.1) am_fl [286, 287, 288, 289, 290, 291, 292, 293, 294, 295, 296, 297, 72, 169, 171, 165, 167, 203, 220, 245, 278, 103, 94, 99, 144, 146, 148, 132, 107, 111, 135, 138, 141, 222, 260, 274, 276, 242, 243, 244, 130, 200, 201, 202, 259, 273, 275, 277, 92, 96, 100, 105, 109, 164, 166, 168, 170, 172, 173, 73, 102, 93, 97, 143, 106, 110, 131, 134, 137, 140, 129, 133, 136, 139, 142, 145, 147, 98, 104, 108, 95, 70, 71, 217, 218, 219, 221, 223, 101, 682, 689, 690, 697, 698, 699, 700, 701, 702, 703, 705, 707, 708, 710, 712, 714, 715, 716, 684, 683, 685, 686, 687, 688, 691, 692, 693, 694, 695, 696, 704, 709, 713, 706, 711] (by decide +kernel) (by decide +kernel)
theorem w_fln : ∀ e ∈ am_fl, e.2.2.1 < 11 ∧ e.2.2.2 < am_fn e.2.2.1 := by decide +kernel
theorem w_ml : ∀ e ∈ am_ml, Jvm.Cond.methodLink (am_own e.1) e.2.1 (am_tab e.2.2).1 ∈ am_tw := am_wall (fun e : Nat × Nat × Nat => Jvm.Cond.methodLink (am_own e.1) e.2.1 (am_tab e.2.2).1) am_ml [193, 328, 337, 394, 401, 414, 427, 439, 444, 445, 450, 454, 458, 469, 478, 494, 500, 504, 534, 550, 558, 563, 564, 570, 579, 587, 605, 613, 631, 639, 648, 656, 538, 473, 341, 345, 349, 357, 353, 361, 365, 369, 384, 373, 380, 377, 418, 423, 512, 516, 431, 508, 517, 522, 526, 521, 617, 621, 622, 58, 678, 323, 789, 333, 798, 406, 838, 410, 842, 435, 862, 446, 871, 465, 879, 474, 891, 479, 895, 483, 899, 490, 903, 496, 908, 530, 923, 546, 935, 554, 943, 559, 959, 566, 963, 571, 967, 575, 971, 583, 978, 592, 982, 601, 988, 609, 992, 627, 1004, 635, 1008, 644, 1012, 652, 1016, 660, 1020, 664, 1024, 668, 1028, 672, 1032, 793, 806, 802, 822, 818, 826, 834, 814, 830, 810, 854, 850, 846, 858, 866, 875, 887, 883, 916, 919, 912, 927, 939, 951, 955, 947, 975, 1000, 996] (by decide +kernel) (by decide +kernel)
def am_nww (e : Nat × Nat × Nat) : Jvm.Cond := .methodLinkNest (am_own e.1) e.2.1 (am_tab e.2.2).1 "SpiteLine"
theorem w_mn : ∀ e ∈ am_mn, am_nww e ∈ lw_tbl := by
  intro e he
  have h : (am_mn.zip [66, 82, 188, 190, 213, 238, 255, 267, 199, 272, 88, 125, 388, 391, 422, 626]).all (fun q => decide (lw_tbl[q.2]? = some (am_nww q.1))) = true := by decide +kernel
  obtain ⟨i, hi⟩ := List.getElem?_of_mem he
  have hlt : i < am_mn.length := (List.getElem?_eq_some_iff.mp hi).1
  have hz : (e, ([66, 82, 188, 190, 213, 238, 255, 267, 199, 272, 88, 125, 388, 391, 422, 626])[i]'(Nat.lt_of_lt_of_eq hlt (by decide +kernel))) ∈ am_mn.zip [66, 82, 188, 190, 213, 238, 255, 267, 199, 272, 88, 125, 388, 391, 422, 626] := List.mem_of_getElem? (i := i) (by rw [List.getElem?_zip_eq_some]; exact ⟨hi, List.getElem?_eq_getElem _⟩)
  exact List.mem_of_getElem? (of_decide_eq_true (List.all_eq_true.mp h _ hz))
theorem w_mo : ∀ e ∈ am_mo, Jvm.Cond.methodLink (am_own e.1) e.2 objectInit ∈ am_tw := am_wall (fun e : Nat × Nat => Jvm.Cond.methodLink (am_own e.1) e.2 objectInit) am_mo [61, 241, 196, 258, 270, 91, 85, 128, 69, 216, 681] (by decide +kernel) (by decide +kernel)
theorem w_mc : ∀ e ∈ am_mc, Jvm.Cond.methodLink (am_own e.1) e.2 arraycopyName ∈ am_tw := am_wall (fun e : Nat × Nat => Jvm.Cond.methodLink (am_own e.1) e.2 arraycopyName) am_mc [591, 398, 405] (by decide +kernel) (by decide +kernel)
def am_mmn (k : Nat) : MethodName := if k = 1002 then Lib.Math.max.name else if k = 1003 then Lib.Math.min.name else Lib.Math.abs.name
theorem w_mm : ∀ e ∈ am_mm, Jvm.Cond.methodLink (am_own e.1) e.2.1 (am_mmn e.2.2) ∈ am_tw := am_wall (fun e : Nat × Nat × Nat => Jvm.Cond.methodLink (am_own e.1) e.2.1 (am_mmn e.2.2)) am_mm [487, 565, 597, 462, 643] (by decide +kernel) (by decide +kernel)
theorem w_mmax : Jvm.Cond.static Lib.Math.max.name ∈ am_tw := am_wok_mem (q := 463) (by decide +kernel)
theorem w_cmax : Jvm.Cond.code Lib.Math.max.name Lib.Math.max.code 2 (some .int) ∈ am_tw := am_wok_mem (q := 464) (by decide +kernel)
theorem w_mmin : Jvm.Cond.static Lib.Math.min.name ∈ am_tw := am_wok_mem (q := 598) (by decide +kernel)
theorem w_cmin : Jvm.Cond.code Lib.Math.min.name Lib.Math.min.code 2 (some .int) ∈ am_tw := am_wok_mem (q := 599) (by decide +kernel)
theorem w_mabs : Jvm.Cond.static Lib.Math.abs.name ∈ am_tw := am_wok_mem (q := 488) (by decide +kernel)
theorem w_cabs : Jvm.Cond.code Lib.Math.abs.name Lib.Math.abs.code 1 (some .int) ∈ am_tw := am_wok_mem (q := 489) (by decide +kernel)
theorem w_mi : Jvm.Cond.initialized "java/lang/Math" ∈ am_tw := am_wok_mem (q := 55) (by decide +kernel)
theorem w_oi : Jvm.Cond.instanceMethod objectInit ∈ am_tw := am_wok_mem (q := 62) (by decide +kernel)
theorem w_oc : Jvm.Cond.code objectInit ⟨#[0xb1]⟩ 1 none ∈ am_tw := am_wok_mem (q := 63) (by decide +kernel)
theorem w_an : Jvm.Cond.native arraycopyName ∈ am_tw := am_wok_mem (q := 400) (by decide +kernel)
theorem w_as : Jvm.Cond.static arraycopyName ∈ am_tw := am_wok_mem (q := 399) (by decide +kernel)
theorem w_ai : Jvm.Cond.initialized "java/lang/System" ∈ am_tw := am_wok_mem (q := 54) (by decide +kernel)
theorem w_aint : Jvm.Cond.arrayClass .int ∈ am_tw := am_wok_mem (q := 79) (by decide +kernel)
theorem w_aboolean : Jvm.Cond.arrayClass .boolean ∈ am_tw := am_wok_mem (q := 235) (by decide +kernel)
theorem w_along : Jvm.Cond.arrayClass .long ∈ am_tw := am_wok_mem (q := 788) (by decide +kernel)
theorem w_aoS : Jvm.Cond.arrayOver (.object "SpiteLine$Scene") ∈ lw_tbl := List.mem_of_getElem? (i := 198) (by decide +kernel)
theorem w_aoI : Jvm.Cond.arrayOver (.object "SpiteLine$Image") ∈ lw_tbl := List.mem_of_getElem? (i := 265) (by decide +kernel)
theorem w_ck : ∀ e ∈ am_ck, Jvm.Cond.classLink (am_own e.1) e.2.1 (am_own e.2.2) ∈ am_tw := am_wall (fun e : Nat × Nat × Nat => Jvm.Cond.classLink (am_own e.1) e.2.1 (am_own e.2.2)) am_ck [64, 80, 187, 189, 191, 211, 236, 253, 264, 197, 271, 86, 123, 56, 676] (by decide +kernel) (by decide +kernel)
theorem w_ckn : ∀ e ∈ am_ck, e.2.2 < 11 := by decide +kernel
theorem w_inst : ∀ ci ∈ List.range 11, Jvm.Cond.instantiable (am_own ci) (am_fn ci) ∈ am_tw := am_wall (fun ci : Nat => Jvm.Cond.instantiable (am_own ci) (am_fn ci)) (List.range 11) [237, 192, 254, 266, 87, 81, 124, 65, 212, 57, 677] (by decide +kernel) (by decide +kernel)
theorem w_init : ∀ ci ∈ List.range 11, Jvm.Cond.initialized (am_own ci) ∈ am_tw := am_wall (fun ci : Nat => Jvm.Cond.initialized (am_own ci)) (List.range 11) [50, 48, 51, 52, 46, 45, 47, 44, 49, 43, 53] (by decide +kernel) (by decide +kernel)
theorem w_ki : ∀ e ∈ am_ki, Jvm.Cond.constant (am_own e.1) e.2.1 e.2.2 ∈ am_tw := am_wall (fun e : Nat × Nat × Int32 => Jvm.Cond.constant (am_own e.1) e.2.1 e.2.2) am_ki [327, 332, 443, 495, 545, 796, 797, 870, 907] (by decide +kernel) (by decide +kernel)
theorem w_kl : ∀ e ∈ am_kl, Jvm.Cond.constantLong (am_own e.1) e.2.1 e.2.2 ∈ am_tw := am_wall (fun e : Nat × Nat × Int64 => Jvm.Cond.constantLong (am_own e.1) e.2.1 e.2.2) am_kl [596, 600, 542, 543, 544, 931, 932, 933, 934, 986, 987] (by decide +kernel) (by decide +kernel)
theorem w_lay0 : ∀ w ∈ u_ws (am_own 0) (am_ft 0) (am_fn 0), w ∈ am_tw := am_wall (fun w : Jvm.Cond => w) (u_ws (am_own 0) (am_ft 0) (am_fn 0)) [246, 248, 250] (by decide +kernel) (by decide +kernel)
theorem w_lay1 : ∀ w ∈ u_ws (am_own 1) (am_ft 1) (am_fn 1), w ∈ am_tw := am_wall (fun w : Jvm.Cond => w) (u_ws (am_own 1) (am_ft 1) (am_fn 1)) [204, 206, 208] (by decide +kernel) (by decide +kernel)
theorem w_lay2 : ∀ w ∈ u_ws (am_own 2) (am_ft 2) (am_fn 2), w ∈ am_tw := am_wall (fun w : Jvm.Cond => w) (u_ws (am_own 2) (am_ft 2) (am_fn 2)) [261] (by decide +kernel) (by decide +kernel)
theorem w_lay3 : ∀ w ∈ u_ws (am_own 3) (am_ft 3) (am_fn 3), w ∈ am_tw := am_wall (fun w : Jvm.Cond => w) (u_ws (am_own 3) (am_ft 3) (am_fn 3)) [279, 281, 283] (by decide +kernel) (by decide +kernel)
theorem w_lay4 : ∀ w ∈ u_ws (am_own 4) (am_ft 4) (am_fn 4), w ∈ am_tw := am_wall (fun w : Jvm.Cond => w) (u_ws (am_own 4) (am_ft 4) (am_fn 4)) [112, 114, 116, 118, 120] (by decide +kernel) (by decide +kernel)
theorem w_lay5 : ∀ w ∈ u_ws (am_own 5) (am_ft 5) (am_fn 5), w ∈ am_tw := am_wall (fun w : Jvm.Cond => w) (u_ws (am_own 5) (am_ft 5) (am_fn 5)) [174, 176, 178, 180, 182, 184] (by decide +kernel) (by decide +kernel)
theorem w_lay6 : ∀ w ∈ u_ws (am_own 6) (am_ft 6) (am_fn 6), w ∈ am_tw := am_wall (fun w : Jvm.Cond => w) (u_ws (am_own 6) (am_ft 6) (am_fn 6)) [149, 151, 153, 155, 157, 159, 161] (by decide +kernel) (by decide +kernel)
theorem w_lay7 : ∀ w ∈ u_ws (am_own 7) (am_ft 7) (am_fn 7), w ∈ am_tw := am_wall (fun w : Jvm.Cond => w) (u_ws (am_own 7) (am_ft 7) (am_fn 7)) [74, 76] (by decide +kernel) (by decide +kernel)
theorem w_lay8 : ∀ w ∈ u_ws (am_own 8) (am_ft 8) (am_fn 8), w ∈ am_tw := am_wall (fun w : Jvm.Cond => w) (u_ws (am_own 8) (am_ft 8) (am_fn 8)) [224, 226, 228, 230, 232] (by decide +kernel) (by decide +kernel)
theorem w_lay9 : ∀ w ∈ u_ws (am_own 9) (am_ft 9) (am_fn 9), w ∈ am_tw := am_wall (fun w : Jvm.Cond => w) (u_ws (am_own 9) (am_ft 9) (am_fn 9)) [298, 300, 302, 304, 306, 308, 310, 312, 314, 316, 318, 320] (by decide +kernel) (by decide +kernel)
theorem w_lay10 : ∀ w ∈ u_ws (am_own 10) (am_ft 10) (am_fn 10), w ∈ am_tw := am_wall (fun w : Jvm.Cond => w) (u_ws (am_own 10) (am_ft 10) (am_fn 10)) [717, 719, 721, 723, 725, 727, 729, 731, 733, 735, 737, 739, 741, 743, 745, 747, 749, 751, 753, 755, 757, 759, 761, 763, 765, 767, 769, 771, 773, 775, 777, 779, 781, 783, 785] (by decide +kernel) (by decide +kernel)
theorem w_lay {ci : Nat} (h : ci < 11) : ∀ w ∈ u_ws (am_own ci) (am_ft ci) (am_fn ci), w ∈ am_tw := by
  match ci, h with
  | 0, _ => exact w_lay0
  | 1, _ => exact w_lay1
  | 2, _ => exact w_lay2
  | 3, _ => exact w_lay3
  | 4, _ => exact w_lay4
  | 5, _ => exact w_lay5
  | 6, _ => exact w_lay6
  | 7, _ => exact w_lay7
  | 8, _ => exact w_lay8
  | 9, _ => exact w_lay9
  | 10, _ => exact w_lay10
set_option maxRecDepth 100000 in
theorem w_code_Sp_init : Jvm.Cond.code M_Sp_init.1 M_Sp_init.2.1 M_Sp_init.2.2.1 M_Sp_init.2.2.2.1 ∈ am_tw := List.mem_filter.mpr ⟨List.mem_of_getElem? (i := 60) rfl, rfl⟩
set_option maxRecDepth 100000 in
theorem w_code_Text_init : Jvm.Cond.code M_Text_init.1 M_Text_init.2.1 M_Text_init.2.2.1 M_Text_init.2.2.2.1 ∈ am_tw := List.mem_filter.mpr ⟨List.mem_of_getElem? (i := 68) rfl, rfl⟩
set_option maxRecDepth 100000 in
theorem w_code_Reader_init : Jvm.Cond.code M_Reader_init.1 M_Reader_init.2.1 M_Reader_init.2.2.1 M_Reader_init.2.2.2.1 ∈ am_tw := List.mem_filter.mpr ⟨List.mem_of_getElem? (i := 84) rfl, rfl⟩
set_option maxRecDepth 100000 in
theorem w_code_Line_init : Jvm.Cond.code M_Line_init.1 M_Line_init.2.1 M_Line_init.2.2.1 M_Line_init.2.2.2.1 ∈ am_tw := List.mem_filter.mpr ⟨List.mem_of_getElem? (i := 90) rfl, rfl⟩
set_option maxRecDepth 100000 in
theorem w_code_Scene_init : Jvm.Cond.code M_Scene_init.1 M_Scene_init.2.1 M_Scene_init.2.2.1 M_Scene_init.2.2.2.1 ∈ am_tw := List.mem_filter.mpr ⟨List.mem_of_getElem? (i := 127) rfl, rfl⟩
set_option maxRecDepth 100000 in
theorem w_code_Deeds_init : Jvm.Cond.code M_Deeds_init.1 M_Deeds_init.2.1 M_Deeds_init.2.2.1 M_Deeds_init.2.2.2.1 ∈ am_tw := List.mem_filter.mpr ⟨List.mem_of_getElem? (i := 195) rfl, rfl⟩
set_option maxRecDepth 100000 in
theorem w_code_Witness_init : Jvm.Cond.code M_Witness_init.1 M_Witness_init.2.1 M_Witness_init.2.2.1 M_Witness_init.2.2.2.1 ∈ am_tw := List.mem_filter.mpr ⟨List.mem_of_getElem? (i := 215) rfl, rfl⟩
set_option maxRecDepth 100000 in
theorem w_code_Book_init : Jvm.Cond.code M_Book_init.1 M_Book_init.2.1 M_Book_init.2.2.1 M_Book_init.2.2.2.1 ∈ am_tw := List.mem_filter.mpr ⟨List.mem_of_getElem? (i := 240) rfl, rfl⟩
set_option maxRecDepth 100000 in
theorem w_code_Draws_init : Jvm.Cond.code M_Draws_init.1 M_Draws_init.2.1 M_Draws_init.2.2.1 M_Draws_init.2.2.2.1 ∈ am_tw := List.mem_filter.mpr ⟨List.mem_of_getElem? (i := 257) rfl, rfl⟩
set_option maxRecDepth 100000 in
theorem w_code_Image_init : Jvm.Cond.code M_Image_init.1 M_Image_init.2.1 M_Image_init.2.2.1 M_Image_init.2.2.2.1 ∈ am_tw := List.mem_filter.mpr ⟨List.mem_of_getElem? (i := 269) rfl, rfl⟩
set_option maxRecDepth 100000 in
theorem w_code_Sp_feed : Jvm.Cond.code M_Sp_feed.1 M_Sp_feed.2.1 M_Sp_feed.2.2.1 M_Sp_feed.2.2.2.1 ∈ am_tw := List.mem_filter.mpr ⟨List.mem_of_getElem? (i := 326) rfl, rfl⟩
set_option maxRecDepth 100000 in
theorem w_code_Text_add : Jvm.Cond.code M_Text_add.1 M_Text_add.2.1 M_Text_add.2.2.1 M_Text_add.2.2.2.1 ∈ am_tw := List.mem_filter.mpr ⟨List.mem_of_getElem? (i := 331) rfl, rfl⟩
set_option maxRecDepth 100000 in
theorem w_code_Sp_line : Jvm.Cond.code M_Sp_line.1 M_Sp_line.2.1 M_Sp_line.2.2.1 M_Sp_line.2.2.2.1 ∈ am_tw := List.mem_filter.mpr ⟨List.mem_of_getElem? (i := 336) rfl, rfl⟩
set_option maxRecDepth 100000 in
theorem w_code_Reader_read : Jvm.Cond.code M_Reader_read.1 M_Reader_read.2.1 M_Reader_read.2.2.1 M_Reader_read.2.2.2.1 ∈ am_tw := List.mem_filter.mpr ⟨List.mem_of_getElem? (i := 340) rfl, rfl⟩
set_option maxRecDepth 100000 in
theorem w_code_Line_clear : Jvm.Cond.code M_Line_clear.1 M_Line_clear.2.1 M_Line_clear.2.2.1 M_Line_clear.2.2.2.1 ∈ am_tw := List.mem_filter.mpr ⟨List.mem_of_getElem? (i := 344) rfl, rfl⟩
set_option maxRecDepth 100000 in
theorem w_code_Scene_clear : Jvm.Cond.code M_Scene_clear.1 M_Scene_clear.2.1 M_Scene_clear.2.2.1 M_Scene_clear.2.2.2.1 ∈ am_tw := List.mem_filter.mpr ⟨List.mem_of_getElem? (i := 348) rfl, rfl⟩
set_option maxRecDepth 100000 in
theorem w_code_Reader_skipBlanks : Jvm.Cond.code M_Reader_skipBlanks.1 M_Reader_skipBlanks.2.1 M_Reader_skipBlanks.2.2.1 M_Reader_skipBlanks.2.2.2.1 ∈ am_tw := List.mem_filter.mpr ⟨List.mem_of_getElem? (i := 352) rfl, rfl⟩
set_option maxRecDepth 100000 in
theorem w_code_Text_letterAt : Jvm.Cond.code M_Text_letterAt.1 M_Text_letterAt.2.1 M_Text_letterAt.2.2.1 M_Text_letterAt.2.2.2.1 ∈ am_tw := List.mem_filter.mpr ⟨List.mem_of_getElem? (i := 356) rfl, rfl⟩
set_option maxRecDepth 100000 in
theorem w_code_Reader_readClause : Jvm.Cond.code M_Reader_readClause.1 M_Reader_readClause.2.1 M_Reader_readClause.2.2.1 M_Reader_readClause.2.2.2.1 ∈ am_tw := List.mem_filter.mpr ⟨List.mem_of_getElem? (i := 360) rfl, rfl⟩
set_option maxRecDepth 100000 in
theorem w_code_Line_isTold : Jvm.Cond.code M_Line_isTold.1 M_Line_isTold.2.1 M_Line_isTold.2.2.1 M_Line_isTold.2.2.2.1 ∈ am_tw := List.mem_filter.mpr ⟨List.mem_of_getElem? (i := 364) rfl, rfl⟩
set_option maxRecDepth 100000 in
theorem w_code_Reader_blame : Jvm.Cond.code M_Reader_blame.1 M_Reader_blame.2.1 M_Reader_blame.2.2.1 M_Reader_blame.2.2.2.1 ∈ am_tw := List.mem_filter.mpr ⟨List.mem_of_getElem? (i := 368) rfl, rfl⟩
set_option maxRecDepth 100000 in
theorem w_code_Reader_readStations : Jvm.Cond.code M_Reader_readStations.1 M_Reader_readStations.2.1 M_Reader_readStations.2.2.1 M_Reader_readStations.2.2.2.1 ∈ am_tw := List.mem_filter.mpr ⟨List.mem_of_getElem? (i := 372) rfl, rfl⟩
set_option maxRecDepth 100000 in
theorem w_code_Reader_readNumber : Jvm.Cond.code M_Reader_readNumber.1 M_Reader_readNumber.2.1 M_Reader_readNumber.2.2.1 M_Reader_readNumber.2.2.2.1 ∈ am_tw := List.mem_filter.mpr ⟨List.mem_of_getElem? (i := 376) rfl, rfl⟩
set_option maxRecDepth 100000 in
theorem w_code_Reader_isFigure : Jvm.Cond.code M_Reader_isFigure.1 M_Reader_isFigure.2.1 M_Reader_isFigure.2.2.1 M_Reader_isFigure.2.2.2.1 ∈ am_tw := List.mem_filter.mpr ⟨List.mem_of_getElem? (i := 379) rfl, rfl⟩
set_option maxRecDepth 100000 in
theorem w_code_Reader_readEnd : Jvm.Cond.code M_Reader_readEnd.1 M_Reader_readEnd.2.1 M_Reader_readEnd.2.2.1 M_Reader_readEnd.2.2.2.1 ∈ am_tw := List.mem_filter.mpr ⟨List.mem_of_getElem? (i := 383) rfl, rfl⟩
set_option maxRecDepth 100000 in
theorem w_code_Reader_readPerson : Jvm.Cond.code M_Reader_readPerson.1 M_Reader_readPerson.2.1 M_Reader_readPerson.2.2.1 M_Reader_readPerson.2.2.2.1 ∈ am_tw := List.mem_filter.mpr ⟨List.mem_of_getElem? (i := 387) rfl, rfl⟩
set_option maxRecDepth 100000 in
theorem w_code_Sp_bit : Jvm.Cond.code M_Sp_bit.1 M_Sp_bit.2.1 M_Sp_bit.2.2.1 M_Sp_bit.2.2.2.1 ∈ am_tw := List.mem_filter.mpr ⟨List.mem_of_getElem? (i := 390) rfl, rfl⟩
set_option maxRecDepth 100000 in
theorem w_code_Sp_withBit : Jvm.Cond.code M_Sp_withBit.1 M_Sp_withBit.2.1 M_Sp_withBit.2.2.1 M_Sp_withBit.2.2.2.1 ∈ am_tw := List.mem_filter.mpr ⟨List.mem_of_getElem? (i := 393) rfl, rfl⟩
set_option maxRecDepth 100000 in
theorem w_code_Line_takeFrom : Jvm.Cond.code M_Line_takeFrom.1 M_Line_takeFrom.2.1 M_Line_takeFrom.2.2.1 M_Line_takeFrom.2.2.2.1 ∈ am_tw := List.mem_filter.mpr ⟨List.mem_of_getElem? (i := 397) rfl, rfl⟩
set_option maxRecDepth 100000 in
theorem w_code_Scene_takeFrom : Jvm.Cond.code M_Scene_takeFrom.1 M_Scene_takeFrom.2.1 M_Scene_takeFrom.2.2.1 M_Scene_takeFrom.2.2.2.1 ∈ am_tw := List.mem_filter.mpr ⟨List.mem_of_getElem? (i := 404) rfl, rfl⟩
set_option maxRecDepth 100000 in
theorem w_code_Sp_fault : Jvm.Cond.code M_Sp_fault.1 M_Sp_fault.2.1 M_Sp_fault.2.2.1 M_Sp_fault.2.2.2.1 ∈ am_tw := List.mem_filter.mpr ⟨List.mem_of_getElem? (i := 409) rfl, rfl⟩
set_option maxRecDepth 100000 in
theorem w_code_Sp_told : Jvm.Cond.code M_Sp_told.1 M_Sp_told.2.1 M_Sp_told.2.2.1 M_Sp_told.2.2.2.1 ∈ am_tw := List.mem_filter.mpr ⟨List.mem_of_getElem? (i := 413) rfl, rfl⟩
set_option maxRecDepth 100000 in
theorem w_code_Scene_awaited : Jvm.Cond.code M_Scene_awaited.1 M_Scene_awaited.2.1 M_Scene_awaited.2.2.1 M_Scene_awaited.2.2.2.1 ∈ am_tw := List.mem_filter.mpr ⟨List.mem_of_getElem? (i := 417) rfl, rfl⟩
set_option maxRecDepth 100000 in
theorem w_code_Scene_shows : Jvm.Cond.code M_Scene_shows.1 M_Scene_shows.2.1 M_Scene_shows.2.2.1 M_Scene_shows.2.2.2.1 ∈ am_tw := List.mem_filter.mpr ⟨List.mem_of_getElem? (i := 421) rfl, rfl⟩
set_option maxRecDepth 100000 in
theorem w_code_Scene_alarm : Jvm.Cond.code M_Scene_alarm.1 M_Scene_alarm.2.1 M_Scene_alarm.2.2.1 M_Scene_alarm.2.2.2.1 ∈ am_tw := List.mem_filter.mpr ⟨List.mem_of_getElem? (i := 426) rfl, rfl⟩
set_option maxRecDepth 100000 in
theorem w_code_Scene_arrived : Jvm.Cond.code M_Scene_arrived.1 M_Scene_arrived.2.1 M_Scene_arrived.2.2.1 M_Scene_arrived.2.2.2.1 ∈ am_tw := List.mem_filter.mpr ⟨List.mem_of_getElem? (i := 430) rfl, rfl⟩
set_option maxRecDepth 100000 in
theorem w_code_Scene_hasArrived : Jvm.Cond.code M_Scene_hasArrived.1 M_Scene_hasArrived.2.1 M_Scene_hasArrived.2.2.1 M_Scene_hasArrived.2.2.2.1 ∈ am_tw := List.mem_filter.mpr ⟨List.mem_of_getElem? (i := 434) rfl, rfl⟩
set_option maxRecDepth 100000 in
theorem w_code_Sp_person : Jvm.Cond.code M_Sp_person.1 M_Sp_person.2.1 M_Sp_person.2.2.1 M_Sp_person.2.2.2.1 ∈ am_tw := List.mem_filter.mpr ⟨List.mem_of_getElem? (i := 438) rfl, rfl⟩
set_option maxRecDepth 100000 in
theorem w_code_Line_hasPerson : Jvm.Cond.code M_Line_hasPerson.1 M_Line_hasPerson.2.1 M_Line_hasPerson.2.2.1 M_Line_hasPerson.2.2.2.1 ∈ am_tw := List.mem_filter.mpr ⟨List.mem_of_getElem? (i := 442) rfl, rfl⟩
set_option maxRecDepth 100000 in
theorem w_code_Sp_station : Jvm.Cond.code M_Sp_station.1 M_Sp_station.2.1 M_Sp_station.2.2.1 M_Sp_station.2.2.2.1 ∈ am_tw := List.mem_filter.mpr ⟨List.mem_of_getElem? (i := 449) rfl, rfl⟩
set_option maxRecDepth 100000 in
theorem w_code_Line_hasStation : Jvm.Cond.code M_Line_hasStation.1 M_Line_hasStation.2.1 M_Line_hasStation.2.2.1 M_Line_hasStation.2.2.2.1 ∈ am_tw := List.mem_filter.mpr ⟨List.mem_of_getElem? (i := 453) rfl, rfl⟩
set_option maxRecDepth 100000 in
theorem w_code_Scene_standing : Jvm.Cond.code M_Scene_standing.1 M_Scene_standing.2.1 M_Scene_standing.2.2.1 M_Scene_standing.2.2.2.1 ∈ am_tw := List.mem_filter.mpr ⟨List.mem_of_getElem? (i := 457) rfl, rfl⟩
set_option maxRecDepth 100000 in
theorem w_code_Scene_mostShown : Jvm.Cond.code M_Scene_mostShown.1 M_Scene_mostShown.2.1 M_Scene_mostShown.2.2.1 M_Scene_mostShown.2.2.2.1 ∈ am_tw := List.mem_filter.mpr ⟨List.mem_of_getElem? (i := 461) rfl, rfl⟩
set_option maxRecDepth 100000 in
theorem w_code_Sp_mien : Jvm.Cond.code M_Sp_mien.1 M_Sp_mien.2.1 M_Sp_mien.2.2.1 M_Sp_mien.2.2.2.1 ∈ am_tw := List.mem_filter.mpr ⟨List.mem_of_getElem? (i := 468) rfl, rfl⟩
set_option maxRecDepth 100000 in
theorem w_code_Deeds_note : Jvm.Cond.code M_Deeds_note.1 M_Deeds_note.2.1 M_Deeds_note.2.2.1 M_Deeds_note.2.2.2.1 ∈ am_tw := List.mem_filter.mpr ⟨List.mem_of_getElem? (i := 472) rfl, rfl⟩
set_option maxRecDepth 100000 in
theorem w_code_Sp_feet : Jvm.Cond.code M_Sp_feet.1 M_Sp_feet.2.1 M_Sp_feet.2.2.1 M_Sp_feet.2.2.2.1 ∈ am_tw := List.mem_filter.mpr ⟨List.mem_of_getElem? (i := 477) rfl, rfl⟩
set_option maxRecDepth 100000 in
theorem w_code_Sp_flowers : Jvm.Cond.code M_Sp_flowers.1 M_Sp_flowers.2.1 M_Sp_flowers.2.2.1 M_Sp_flowers.2.2.2.1 ∈ am_tw := List.mem_filter.mpr ⟨List.mem_of_getElem? (i := 482) rfl, rfl⟩
set_option maxRecDepth 100000 in
theorem w_code_Sp_walk : Jvm.Cond.code M_Sp_walk.1 M_Sp_walk.2.1 M_Sp_walk.2.2.1 M_Sp_walk.2.2.2.1 ∈ am_tw := List.mem_filter.mpr ⟨List.mem_of_getElem? (i := 486) rfl, rfl⟩
set_option maxRecDepth 100000 in
theorem w_code_Sp_fog : Jvm.Cond.code M_Sp_fog.1 M_Sp_fog.2.1 M_Sp_fog.2.2.1 M_Sp_fog.2.2.2.1 ∈ am_tw := List.mem_filter.mpr ⟨List.mem_of_getElem? (i := 493) rfl, rfl⟩
set_option maxRecDepth 100000 in
theorem w_code_Sp_train : Jvm.Cond.code M_Sp_train.1 M_Sp_train.2.1 M_Sp_train.2.2.1 M_Sp_train.2.2.2.1 ∈ am_tw := List.mem_filter.mpr ⟨List.mem_of_getElem? (i := 499) rfl, rfl⟩
set_option maxRecDepth 100000 in
theorem w_code_Sp_trainsRefused : Jvm.Cond.code M_Sp_trainsRefused.1 M_Sp_trainsRefused.2.1 M_Sp_trainsRefused.2.2.1 M_Sp_trainsRefused.2.2.2.1 ∈ am_tw := List.mem_filter.mpr ⟨List.mem_of_getElem? (i := 503) rfl, rfl⟩
set_option maxRecDepth 100000 in
theorem w_code_Scene_runTrain : Jvm.Cond.code M_Scene_runTrain.1 M_Scene_runTrain.2.1 M_Scene_runTrain.2.2.1 M_Scene_runTrain.2.2.2.1 ∈ am_tw := List.mem_filter.mpr ⟨List.mem_of_getElem? (i := 507) rfl, rfl⟩
set_option maxRecDepth 100000 in
theorem w_code_Scene_stopsOfNext : Jvm.Cond.code M_Scene_stopsOfNext.1 M_Scene_stopsOfNext.2.1 M_Scene_stopsOfNext.2.2.1 M_Scene_stopsOfNext.2.2.2.1 ∈ am_tw := List.mem_filter.mpr ⟨List.mem_of_getElem? (i := 511) rfl, rfl⟩
set_option maxRecDepth 100000 in
theorem w_code_Line_allStations : Jvm.Cond.code M_Line_allStations.1 M_Line_allStations.2.1 M_Line_allStations.2.2.1 M_Line_allStations.2.2.2.1 ∈ am_tw := List.mem_filter.mpr ⟨List.mem_of_getElem? (i := 515) rfl, rfl⟩
set_option maxRecDepth 100000 in
theorem w_code_Scene_letOut : Jvm.Cond.code M_Scene_letOut.1 M_Scene_letOut.2.1 M_Scene_letOut.2.2.1 M_Scene_letOut.2.2.2.1 ∈ am_tw := List.mem_filter.mpr ⟨List.mem_of_getElem? (i := 520) rfl, rfl⟩
set_option maxRecDepth 100000 in
theorem w_code_Scene_takeIn : Jvm.Cond.code M_Scene_takeIn.1 M_Scene_takeIn.2.1 M_Scene_takeIn.2.2.1 M_Scene_takeIn.2.2.2.1 ∈ am_tw := List.mem_filter.mpr ⟨List.mem_of_getElem? (i := 525) rfl, rfl⟩
set_option maxRecDepth 100000 in
theorem w_code_Scene_emptyAtLast : Jvm.Cond.code M_Scene_emptyAtLast.1 M_Scene_emptyAtLast.2.1 M_Scene_emptyAtLast.2.2.1 M_Scene_emptyAtLast.2.2.2.1 ∈ am_tw := List.mem_filter.mpr ⟨List.mem_of_getElem? (i := 529) rfl, rfl⟩
set_option maxRecDepth 100000 in
theorem w_code_Sp_drift : Jvm.Cond.code M_Sp_drift.1 M_Sp_drift.2.1 M_Sp_drift.2.2.1 M_Sp_drift.2.2.2.1 ∈ am_tw := List.mem_filter.mpr ⟨List.mem_of_getElem? (i := 533) rfl, rfl⟩
set_option maxRecDepth 100000 in
theorem w_code_Sp_drawDay : Jvm.Cond.code M_Sp_drawDay.1 M_Sp_drawDay.2.1 M_Sp_drawDay.2.2.1 M_Sp_drawDay.2.2.2.1 ∈ am_tw := List.mem_filter.mpr ⟨List.mem_of_getElem? (i := 537) rfl, rfl⟩
set_option maxRecDepth 100000 in
theorem w_code_Draws_next : Jvm.Cond.code M_Draws_next.1 M_Draws_next.2.1 M_Draws_next.2.2.1 M_Draws_next.2.2.2.1 ∈ am_tw := List.mem_filter.mpr ⟨List.mem_of_getElem? (i := 541) rfl, rfl⟩
set_option maxRecDepth 100000 in
theorem w_code_Sp_undo : Jvm.Cond.code M_Sp_undo.1 M_Sp_undo.2.1 M_Sp_undo.2.2.1 M_Sp_undo.2.2.2.1 ∈ am_tw := List.mem_filter.mpr ⟨List.mem_of_getElem? (i := 549) rfl, rfl⟩
set_option maxRecDepth 100000 in
theorem w_code_Deeds_takeBack : Jvm.Cond.code M_Deeds_takeBack.1 M_Deeds_takeBack.2.1 M_Deeds_takeBack.2.2.1 M_Deeds_takeBack.2.2.2.1 ∈ am_tw := List.mem_filter.mpr ⟨List.mem_of_getElem? (i := 553) rfl, rfl⟩
set_option maxRecDepth 100000 in
theorem w_code_Sp_stops : Jvm.Cond.code M_Sp_stops.1 M_Sp_stops.2.1 M_Sp_stops.2.2.1 M_Sp_stops.2.2.2.1 ∈ am_tw := List.mem_filter.mpr ⟨List.mem_of_getElem? (i := 557) rfl, rfl⟩
set_option maxRecDepth 100000 in
theorem w_code_Sp_calm : Jvm.Cond.code M_Sp_calm.1 M_Sp_calm.2.1 M_Sp_calm.2.2.1 M_Sp_calm.2.2.2.1 ∈ am_tw := List.mem_filter.mpr ⟨List.mem_of_getElem? (i := 562) rfl, rfl⟩
set_option maxRecDepth 100000 in
theorem w_code_Sp_journey : Jvm.Cond.code M_Sp_journey.1 M_Sp_journey.2.1 M_Sp_journey.2.2.1 M_Sp_journey.2.2.2.1 ∈ am_tw := List.mem_filter.mpr ⟨List.mem_of_getElem? (i := 569) rfl, rfl⟩
set_option maxRecDepth 100000 in
theorem w_code_Sp_never : Jvm.Cond.code M_Sp_never.1 M_Sp_never.2.1 M_Sp_never.2.2.1 M_Sp_never.2.2.2.1 ∈ am_tw := List.mem_filter.mpr ⟨List.mem_of_getElem? (i := 574) rfl, rfl⟩
set_option maxRecDepth 100000 in
theorem w_code_Sp_cut : Jvm.Cond.code M_Sp_cut.1 M_Sp_cut.2.1 M_Sp_cut.2.2.1 M_Sp_cut.2.2.2.1 ∈ am_tw := List.mem_filter.mpr ⟨List.mem_of_getElem? (i := 578) rfl, rfl⟩
set_option maxRecDepth 100000 in
theorem w_code_Sp_arrivesThough : Jvm.Cond.code M_Sp_arrivesThough.1 M_Sp_arrivesThough.2.1 M_Sp_arrivesThough.2.2.1 M_Sp_arrivesThough.2.2.2.1 ∈ am_tw := List.mem_filter.mpr ⟨List.mem_of_getElem? (i := 582) rfl, rfl⟩
set_option maxRecDepth 100000 in
theorem w_code_Sp_aunts : Jvm.Cond.code M_Sp_aunts.1 M_Sp_aunts.2.1 M_Sp_aunts.2.2.1 M_Sp_aunts.2.2.2.1 ∈ am_tw := List.mem_filter.mpr ⟨List.mem_of_getElem? (i := 586) rfl, rfl⟩
set_option maxRecDepth 100000 in
theorem w_code_Sp_endsAt : Jvm.Cond.code M_Sp_endsAt.1 M_Sp_endsAt.2.1 M_Sp_endsAt.2.2.1 M_Sp_endsAt.2.2.2.1 ∈ am_tw := List.mem_filter.mpr ⟨List.mem_of_getElem? (i := 590) rfl, rfl⟩
set_option maxRecDepth 100000 in
theorem w_code_Sp_chance : Jvm.Cond.code M_Sp_chance.1 M_Sp_chance.2.1 M_Sp_chance.2.2.1 M_Sp_chance.2.2.2.1 ∈ am_tw := List.mem_filter.mpr ⟨List.mem_of_getElem? (i := 595) rfl, rfl⟩
set_option maxRecDepth 100000 in
theorem w_code_Sp_ran : Jvm.Cond.code M_Sp_ran.1 M_Sp_ran.2.1 M_Sp_ran.2.2.1 M_Sp_ran.2.2.2.1 ∈ am_tw := List.mem_filter.mpr ⟨List.mem_of_getElem? (i := 604) rfl, rfl⟩
set_option maxRecDepth 100000 in
theorem w_code_Witness_add : Jvm.Cond.code M_Witness_add.1 M_Witness_add.2.1 M_Witness_add.2.2.1 M_Witness_add.2.2.2.1 ∈ am_tw := List.mem_filter.mpr ⟨List.mem_of_getElem? (i := 608) rfl, rfl⟩
set_option maxRecDepth 100000 in
theorem w_code_Sp_hoped : Jvm.Cond.code M_Sp_hoped.1 M_Sp_hoped.2.1 M_Sp_hoped.2.2.1 M_Sp_hoped.2.2.2.1 ∈ am_tw := List.mem_filter.mpr ⟨List.mem_of_getElem? (i := 612) rfl, rfl⟩
set_option maxRecDepth 100000 in
theorem w_code_Witness_find : Jvm.Cond.code M_Witness_find.1 M_Witness_find.2.1 M_Witness_find.2.2.1 M_Witness_find.2.2.2.1 ∈ am_tw := List.mem_filter.mpr ⟨List.mem_of_getElem? (i := 616) rfl, rfl⟩
set_option maxRecDepth 100000 in
theorem w_code_Witness_tryHopeful : Jvm.Cond.code M_Witness_tryHopeful.1 M_Witness_tryHopeful.2.1 M_Witness_tryHopeful.2.2.1 M_Witness_tryHopeful.2.2.2.1 ∈ am_tw := List.mem_filter.mpr ⟨List.mem_of_getElem? (i := 620) rfl, rfl⟩
set_option maxRecDepth 100000 in
theorem w_code_Witness_fits : Jvm.Cond.code M_Witness_fits.1 M_Witness_fits.2.1 M_Witness_fits.2.2.1 M_Witness_fits.2.2.2.1 ∈ am_tw := List.mem_filter.mpr ⟨List.mem_of_getElem? (i := 625) rfl, rfl⟩
set_option maxRecDepth 100000 in
theorem w_code_Sp_sure : Jvm.Cond.code M_Sp_sure.1 M_Sp_sure.2.1 M_Sp_sure.2.2.1 M_Sp_sure.2.2.2.1 ∈ am_tw := List.mem_filter.mpr ⟨List.mem_of_getElem? (i := 630) rfl, rfl⟩
set_option maxRecDepth 100000 in
theorem w_code_Line_allPersons : Jvm.Cond.code M_Line_allPersons.1 M_Line_allPersons.2.1 M_Line_allPersons.2.2.1 M_Line_allPersons.2.2.2.1 ∈ am_tw := List.mem_filter.mpr ⟨List.mem_of_getElem? (i := 634) rfl, rfl⟩
set_option maxRecDepth 100000 in
theorem w_code_Sp_look : Jvm.Cond.code M_Sp_look.1 M_Sp_look.2.1 M_Sp_look.2.2.1 M_Sp_look.2.2.2.1 ∈ am_tw := List.mem_filter.mpr ⟨List.mem_of_getElem? (i := 638) rfl, rfl⟩
set_option maxRecDepth 100000 in
theorem w_code_Witness_greatestPart : Jvm.Cond.code M_Witness_greatestPart.1 M_Witness_greatestPart.2.1 M_Witness_greatestPart.2.2.1 M_Witness_greatestPart.2.2.2.1 ∈ am_tw := List.mem_filter.mpr ⟨List.mem_of_getElem? (i := 642) rfl, rfl⟩
set_option maxRecDepth 100000 in
theorem w_code_Sp_write : Jvm.Cond.code M_Sp_write.1 M_Sp_write.2.1 M_Sp_write.2.2.1 M_Sp_write.2.2.2.1 ∈ am_tw := List.mem_filter.mpr ⟨List.mem_of_getElem? (i := 647) rfl, rfl⟩
set_option maxRecDepth 100000 in
theorem w_code_Book_add : Jvm.Cond.code M_Book_add.1 M_Book_add.2.1 M_Book_add.2.2.1 M_Book_add.2.2.2.1 ∈ am_tw := List.mem_filter.mpr ⟨List.mem_of_getElem? (i := 651) rfl, rfl⟩
set_option maxRecDepth 100000 in
theorem w_code_Sp_judge : Jvm.Cond.code M_Sp_judge.1 M_Sp_judge.2.1 M_Sp_judge.2.2.1 M_Sp_judge.2.2.2.1 ∈ am_tw := List.mem_filter.mpr ⟨List.mem_of_getElem? (i := 655) rfl, rfl⟩
set_option maxRecDepth 100000 in
theorem w_code_Book_firstWrong : Jvm.Cond.code M_Book_firstWrong.1 M_Book_firstWrong.2.1 M_Book_firstWrong.2.2.1 M_Book_firstWrong.2.2.2.1 ∈ am_tw := List.mem_filter.mpr ⟨List.mem_of_getElem? (i := 659) rfl, rfl⟩
set_option maxRecDepth 100000 in
theorem w_code_Sp_tear : Jvm.Cond.code M_Sp_tear.1 M_Sp_tear.2.1 M_Sp_tear.2.2.1 M_Sp_tear.2.2.2.1 ∈ am_tw := List.mem_filter.mpr ⟨List.mem_of_getElem? (i := 663) rfl, rfl⟩
set_option maxRecDepth 100000 in
theorem w_code_Sp_seed : Jvm.Cond.code M_Sp_seed.1 M_Sp_seed.2.1 M_Sp_seed.2.2.1 M_Sp_seed.2.2.2.1 ∈ am_tw := List.mem_filter.mpr ⟨List.mem_of_getElem? (i := 667) rfl, rfl⟩
set_option maxRecDepth 100000 in
theorem w_code_Sp_keep : Jvm.Cond.code M_Sp_keep.1 M_Sp_keep.2.1 M_Sp_keep.2.2.1 M_Sp_keep.2.2.2.1 ∈ am_tw := List.mem_filter.mpr ⟨List.mem_of_getElem? (i := 671) rfl, rfl⟩
set_option maxRecDepth 100000 in
theorem w_code_Sp_goBack : Jvm.Cond.code M_Sp_goBack.1 M_Sp_goBack.2.1 M_Sp_goBack.2.2.1 M_Sp_goBack.2.2.2.1 ∈ am_tw := List.mem_filter.mpr ⟨List.mem_of_getElem? (i := 675) rfl, rfl⟩
set_option maxRecDepth 100000 in
theorem w_code_Mo_init : Jvm.Cond.code M_Mo_init.1 M_Mo_init.2.1 M_Mo_init.2.2.1 M_Mo_init.2.2.2.1 ∈ am_tw := List.mem_filter.mpr ⟨List.mem_of_getElem? (i := 680) rfl, rfl⟩
set_option maxRecDepth 100000 in
theorem w_code_Mo_feed : Jvm.Cond.code M_Mo_feed.1 M_Mo_feed.2.1 M_Mo_feed.2.2.1 M_Mo_feed.2.2.2.1 ∈ am_tw := List.mem_filter.mpr ⟨List.mem_of_getElem? (i := 792) rfl, rfl⟩
set_option maxRecDepth 100000 in
theorem w_code_Mo_in : Jvm.Cond.code M_Mo_in.1 M_Mo_in.2.1 M_Mo_in.2.2.1 M_Mo_in.2.2.2.1 ∈ am_tw := List.mem_filter.mpr ⟨List.mem_of_getElem? (i := 795) rfl, rfl⟩
set_option maxRecDepth 100000 in
theorem w_code_Mo_line : Jvm.Cond.code M_Mo_line.1 M_Mo_line.2.1 M_Mo_line.2.2.1 M_Mo_line.2.2.2.1 ∈ am_tw := List.mem_filter.mpr ⟨List.mem_of_getElem? (i := 801) rfl, rfl⟩
set_option maxRecDepth 100000 in
theorem w_code_Mo_skip : Jvm.Cond.code M_Mo_skip.1 M_Mo_skip.2.1 M_Mo_skip.2.2.1 M_Mo_skip.2.2.2.1 ∈ am_tw := List.mem_filter.mpr ⟨List.mem_of_getElem? (i := 805) rfl, rfl⟩
set_option maxRecDepth 100000 in
theorem w_code_Mo_here : Jvm.Cond.code M_Mo_here.1 M_Mo_here.2.1 M_Mo_here.2.2.1 M_Mo_here.2.2.2.1 ∈ am_tw := List.mem_filter.mpr ⟨List.mem_of_getElem? (i := 809) rfl, rfl⟩
set_option maxRecDepth 100000 in
theorem w_code_Mo_readsLine : Jvm.Cond.code M_Mo_readsLine.1 M_Mo_readsLine.2.1 M_Mo_readsLine.2.2.1 M_Mo_readsLine.2.2.2.1 ∈ am_tw := List.mem_filter.mpr ⟨List.mem_of_getElem? (i := 813) rfl, rfl⟩
set_option maxRecDepth 100000 in
theorem w_code_Mo_readsFirst : Jvm.Cond.code M_Mo_readsFirst.1 M_Mo_readsFirst.2.1 M_Mo_readsFirst.2.2.1 M_Mo_readsFirst.2.2.2.1 ∈ am_tw := List.mem_filter.mpr ⟨List.mem_of_getElem? (i := 817) rfl, rfl⟩
set_option maxRecDepth 100000 in
theorem w_code_Mo_sign : Jvm.Cond.code M_Mo_sign.1 M_Mo_sign.2.1 M_Mo_sign.2.2.1 M_Mo_sign.2.2.2.1 ∈ am_tw := List.mem_filter.mpr ⟨List.mem_of_getElem? (i := 821) rfl, rfl⟩
set_option maxRecDepth 100000 in
theorem w_code_Mo_fails : Jvm.Cond.code M_Mo_fails.1 M_Mo_fails.2.1 M_Mo_fails.2.2.1 M_Mo_fails.2.2.2.1 ∈ am_tw := List.mem_filter.mpr ⟨List.mem_of_getElem? (i := 825) rfl, rfl⟩
set_option maxRecDepth 100000 in
theorem w_code_Mo_number : Jvm.Cond.code M_Mo_number.1 M_Mo_number.2.1 M_Mo_number.2.2.1 M_Mo_number.2.2.2.1 ∈ am_tw := List.mem_filter.mpr ⟨List.mem_of_getElem? (i := 829) rfl, rfl⟩
set_option maxRecDepth 100000 in
theorem w_code_Mo_readsPerson : Jvm.Cond.code M_Mo_readsPerson.1 M_Mo_readsPerson.2.1 M_Mo_readsPerson.2.2.1 M_Mo_readsPerson.2.2.2.1 ∈ am_tw := List.mem_filter.mpr ⟨List.mem_of_getElem? (i := 833) rfl, rfl⟩
set_option maxRecDepth 100000 in
theorem w_code_Mo_readsMet : Jvm.Cond.code M_Mo_readsMet.1 M_Mo_readsMet.2.1 M_Mo_readsMet.2.2.1 M_Mo_readsMet.2.2.2.1 ∈ am_tw := List.mem_filter.mpr ⟨List.mem_of_getElem? (i := 837) rfl, rfl⟩
set_option maxRecDepth 100000 in
theorem w_code_Mo_fault : Jvm.Cond.code M_Mo_fault.1 M_Mo_fault.2.1 M_Mo_fault.2.2.1 M_Mo_fault.2.2.2.1 ∈ am_tw := List.mem_filter.mpr ⟨List.mem_of_getElem? (i := 841) rfl, rfl⟩
set_option maxRecDepth 100000 in
theorem w_code_Mo_told : Jvm.Cond.code M_Mo_told.1 M_Mo_told.2.1 M_Mo_told.2.2.1 M_Mo_told.2.2.2.1 ∈ am_tw := List.mem_filter.mpr ⟨List.mem_of_getElem? (i := 845) rfl, rfl⟩
set_option maxRecDepth 100000 in
theorem w_code_Mo_awaitedSet : Jvm.Cond.code M_Mo_awaitedSet.1 M_Mo_awaitedSet.2.1 M_Mo_awaitedSet.2.2.1 M_Mo_awaitedSet.2.2.2.1 ∈ am_tw := List.mem_filter.mpr ⟨List.mem_of_getElem? (i := 849) rfl, rfl⟩
set_option maxRecDepth 100000 in
theorem w_code_Mo_isAwaited : Jvm.Cond.code M_Mo_isAwaited.1 M_Mo_isAwaited.2.1 M_Mo_isAwaited.2.2.1 M_Mo_isAwaited.2.2.2.1 ∈ am_tw := List.mem_filter.mpr ⟨List.mem_of_getElem? (i := 853) rfl, rfl⟩
set_option maxRecDepth 100000 in
theorem w_code_Mo_shows : Jvm.Cond.code M_Mo_shows.1 M_Mo_shows.2.1 M_Mo_shows.2.2.1 M_Mo_shows.2.2.2.1 ∈ am_tw := List.mem_filter.mpr ⟨List.mem_of_getElem? (i := 857) rfl, rfl⟩
set_option maxRecDepth 100000 in
theorem w_code_Mo_arrivedSet : Jvm.Cond.code M_Mo_arrivedSet.1 M_Mo_arrivedSet.2.1 M_Mo_arrivedSet.2.2.1 M_Mo_arrivedSet.2.2.2.1 ∈ am_tw := List.mem_filter.mpr ⟨List.mem_of_getElem? (i := 861) rfl, rfl⟩
set_option maxRecDepth 100000 in
theorem w_code_Mo_person : Jvm.Cond.code M_Mo_person.1 M_Mo_person.2.1 M_Mo_person.2.2.1 M_Mo_person.2.2.2.1 ∈ am_tw := List.mem_filter.mpr ⟨List.mem_of_getElem? (i := 865) rfl, rfl⟩
set_option maxRecDepth 100000 in
theorem w_code_Mo_isPerson : Jvm.Cond.code M_Mo_isPerson.1 M_Mo_isPerson.2.1 M_Mo_isPerson.2.2.1 M_Mo_isPerson.2.2.2.1 ∈ am_tw := List.mem_filter.mpr ⟨List.mem_of_getElem? (i := 869) rfl, rfl⟩
set_option maxRecDepth 100000 in
theorem w_code_Mo_station : Jvm.Cond.code M_Mo_station.1 M_Mo_station.2.1 M_Mo_station.2.2.1 M_Mo_station.2.2.2.1 ∈ am_tw := List.mem_filter.mpr ⟨List.mem_of_getElem? (i := 874) rfl, rfl⟩
set_option maxRecDepth 100000 in
theorem w_code_Mo_isStation : Jvm.Cond.code M_Mo_isStation.1 M_Mo_isStation.2.1 M_Mo_isStation.2.2.1 M_Mo_isStation.2.2.2.1 ∈ am_tw := List.mem_filter.mpr ⟨List.mem_of_getElem? (i := 878) rfl, rfl⟩
set_option maxRecDepth 100000 in
theorem w_code_Mo_mien : Jvm.Cond.code M_Mo_mien.1 M_Mo_mien.2.1 M_Mo_mien.2.2.1 M_Mo_mien.2.2.2.1 ∈ am_tw := List.mem_filter.mpr ⟨List.mem_of_getElem? (i := 882) rfl, rfl⟩
set_option maxRecDepth 100000 in
theorem w_code_Mo_notes : Jvm.Cond.code M_Mo_notes.1 M_Mo_notes.2.1 M_Mo_notes.2.2.1 M_Mo_notes.2.2.2.1 ∈ am_tw := List.mem_filter.mpr ⟨List.mem_of_getElem? (i := 886) rfl, rfl⟩
set_option maxRecDepth 100000 in
theorem w_code_Mo_laysBy : Jvm.Cond.code M_Mo_laysBy.1 M_Mo_laysBy.2.1 M_Mo_laysBy.2.2.1 M_Mo_laysBy.2.2.2.1 ∈ am_tw := List.mem_filter.mpr ⟨List.mem_of_getElem? (i := 890) rfl, rfl⟩
set_option maxRecDepth 100000 in
theorem w_code_Mo_feet : Jvm.Cond.code M_Mo_feet.1 M_Mo_feet.2.1 M_Mo_feet.2.2.1 M_Mo_feet.2.2.2.1 ∈ am_tw := List.mem_filter.mpr ⟨List.mem_of_getElem? (i := 894) rfl, rfl⟩
set_option maxRecDepth 100000 in
theorem w_code_Mo_flowers : Jvm.Cond.code M_Mo_flowers.1 M_Mo_flowers.2.1 M_Mo_flowers.2.2.1 M_Mo_flowers.2.2.2.1 ∈ am_tw := List.mem_filter.mpr ⟨List.mem_of_getElem? (i := 898) rfl, rfl⟩
set_option maxRecDepth 100000 in
theorem w_code_Mo_walk : Jvm.Cond.code M_Mo_walk.1 M_Mo_walk.2.1 M_Mo_walk.2.2.1 M_Mo_walk.2.2.2.1 ∈ am_tw := List.mem_filter.mpr ⟨List.mem_of_getElem? (i := 902) rfl, rfl⟩
set_option maxRecDepth 100000 in
theorem w_code_Mo_fog : Jvm.Cond.code M_Mo_fog.1 M_Mo_fog.2.1 M_Mo_fog.2.2.1 M_Mo_fog.2.2.2.1 ∈ am_tw := List.mem_filter.mpr ⟨List.mem_of_getElem? (i := 906) rfl, rfl⟩
set_option maxRecDepth 100000 in
theorem w_code_Mo_train : Jvm.Cond.code M_Mo_train.1 M_Mo_train.2.1 M_Mo_train.2.2.1 M_Mo_train.2.2.2.1 ∈ am_tw := List.mem_filter.mpr ⟨List.mem_of_getElem? (i := 911) rfl, rfl⟩
set_option maxRecDepth 100000 in
theorem w_code_Mo_run : Jvm.Cond.code M_Mo_run.1 M_Mo_run.2.1 M_Mo_run.2.2.1 M_Mo_run.2.2.2.1 ∈ am_tw := List.mem_filter.mpr ⟨List.mem_of_getElem? (i := 915) rfl, rfl⟩
set_option maxRecDepth 100000 in
theorem w_code_Mo_has : Jvm.Cond.code M_Mo_has.1 M_Mo_has.2.1 M_Mo_has.2.2.1 M_Mo_has.2.2.2.1 ∈ am_tw := List.mem_filter.mpr ⟨List.mem_of_getElem? (i := 918) rfl, rfl⟩
set_option maxRecDepth 100000 in
theorem w_code_Mo_getOut : Jvm.Cond.code M_Mo_getOut.1 M_Mo_getOut.2.1 M_Mo_getOut.2.2.1 M_Mo_getOut.2.2.2.1 ∈ am_tw := List.mem_filter.mpr ⟨List.mem_of_getElem? (i := 922) rfl, rfl⟩
set_option maxRecDepth 100000 in
theorem w_code_Mo_drift : Jvm.Cond.code M_Mo_drift.1 M_Mo_drift.2.1 M_Mo_drift.2.2.1 M_Mo_drift.2.2.2.1 ∈ am_tw := List.mem_filter.mpr ⟨List.mem_of_getElem? (i := 926) rfl, rfl⟩
set_option maxRecDepth 100000 in
theorem w_code_Mo_drawn : Jvm.Cond.code M_Mo_drawn.1 M_Mo_drawn.2.1 M_Mo_drawn.2.2.1 M_Mo_drawn.2.2.2.1 ∈ am_tw := List.mem_filter.mpr ⟨List.mem_of_getElem? (i := 930) rfl, rfl⟩
set_option maxRecDepth 100000 in
theorem w_code_Mo_undo : Jvm.Cond.code M_Mo_undo.1 M_Mo_undo.2.1 M_Mo_undo.2.2.1 M_Mo_undo.2.2.2.1 ∈ am_tw := List.mem_filter.mpr ⟨List.mem_of_getElem? (i := 938) rfl, rfl⟩
set_option maxRecDepth 100000 in
theorem w_code_Mo_read : Jvm.Cond.code M_Mo_read.1 M_Mo_read.2.1 M_Mo_read.2.2.1 M_Mo_read.2.2.2.1 ∈ am_tw := List.mem_filter.mpr ⟨List.mem_of_getElem? (i := 942) rfl, rfl⟩
set_option maxRecDepth 100000 in
theorem w_code_Mo_stops : Jvm.Cond.code M_Mo_stops.1 M_Mo_stops.2.1 M_Mo_stops.2.2.1 M_Mo_stops.2.2.2.1 ∈ am_tw := List.mem_filter.mpr ⟨List.mem_of_getElem? (i := 946) rfl, rfl⟩
set_option maxRecDepth 100000 in
theorem w_code_Mo_nextStops : Jvm.Cond.code M_Mo_nextStops.1 M_Mo_nextStops.2.1 M_Mo_nextStops.2.2.1 M_Mo_nextStops.2.2.2.1 ∈ am_tw := List.mem_filter.mpr ⟨List.mem_of_getElem? (i := 950) rfl, rfl⟩
set_option maxRecDepth 100000 in
theorem w_code_Mo_begin : Jvm.Cond.code M_Mo_begin.1 M_Mo_begin.2.1 M_Mo_begin.2.2.1 M_Mo_begin.2.2.2.1 ∈ am_tw := List.mem_filter.mpr ⟨List.mem_of_getElem? (i := 954) rfl, rfl⟩
set_option maxRecDepth 100000 in
theorem w_code_Mo_back : Jvm.Cond.code M_Mo_back.1 M_Mo_back.2.1 M_Mo_back.2.2.1 M_Mo_back.2.2.2.1 ∈ am_tw := List.mem_filter.mpr ⟨List.mem_of_getElem? (i := 958) rfl, rfl⟩
set_option maxRecDepth 100000 in
theorem w_code_Mo_calm : Jvm.Cond.code M_Mo_calm.1 M_Mo_calm.2.1 M_Mo_calm.2.2.1 M_Mo_calm.2.2.2.1 ∈ am_tw := List.mem_filter.mpr ⟨List.mem_of_getElem? (i := 962) rfl, rfl⟩
set_option maxRecDepth 100000 in
theorem w_code_Mo_journey : Jvm.Cond.code M_Mo_journey.1 M_Mo_journey.2.1 M_Mo_journey.2.2.1 M_Mo_journey.2.2.2.1 ∈ am_tw := List.mem_filter.mpr ⟨List.mem_of_getElem? (i := 966) rfl, rfl⟩
set_option maxRecDepth 100000 in
theorem w_code_Mo_never : Jvm.Cond.code M_Mo_never.1 M_Mo_never.2.1 M_Mo_never.2.2.1 M_Mo_never.2.2.2.1 ∈ am_tw := List.mem_filter.mpr ⟨List.mem_of_getElem? (i := 970) rfl, rfl⟩
set_option maxRecDepth 100000 in
theorem w_code_Mo_cut : Jvm.Cond.code M_Mo_cut.1 M_Mo_cut.2.1 M_Mo_cut.2.2.1 M_Mo_cut.2.2.2.1 ∈ am_tw := List.mem_filter.mpr ⟨List.mem_of_getElem? (i := 974) rfl, rfl⟩
set_option maxRecDepth 100000 in
theorem w_code_Mo_bits : Jvm.Cond.code M_Mo_bits.1 M_Mo_bits.2.1 M_Mo_bits.2.2.1 M_Mo_bits.2.2.2.1 ∈ am_tw := List.mem_filter.mpr ⟨List.mem_of_getElem? (i := 977) rfl, rfl⟩
set_option maxRecDepth 100000 in
theorem w_code_Mo_aunts : Jvm.Cond.code M_Mo_aunts.1 M_Mo_aunts.2.1 M_Mo_aunts.2.2.1 M_Mo_aunts.2.2.2.1 ∈ am_tw := List.mem_filter.mpr ⟨List.mem_of_getElem? (i := 981) rfl, rfl⟩
set_option maxRecDepth 100000 in
theorem w_code_Mo_chance : Jvm.Cond.code M_Mo_chance.1 M_Mo_chance.2.1 M_Mo_chance.2.2.1 M_Mo_chance.2.2.2.1 ∈ am_tw := List.mem_filter.mpr ⟨List.mem_of_getElem? (i := 985) rfl, rfl⟩
set_option maxRecDepth 100000 in
theorem w_code_Mo_ran : Jvm.Cond.code M_Mo_ran.1 M_Mo_ran.2.1 M_Mo_ran.2.2.1 M_Mo_ran.2.2.2.1 ∈ am_tw := List.mem_filter.mpr ⟨List.mem_of_getElem? (i := 991) rfl, rfl⟩
set_option maxRecDepth 100000 in
theorem w_code_Mo_hoped : Jvm.Cond.code M_Mo_hoped.1 M_Mo_hoped.2.1 M_Mo_hoped.2.2.1 M_Mo_hoped.2.2.2.1 ∈ am_tw := List.mem_filter.mpr ⟨List.mem_of_getElem? (i := 995) rfl, rfl⟩
set_option maxRecDepth 100000 in
theorem w_code_Mo_setHopes : Jvm.Cond.code M_Mo_setHopes.1 M_Mo_setHopes.2.1 M_Mo_setHopes.2.2.1 M_Mo_setHopes.2.2.2.1 ∈ am_tw := List.mem_filter.mpr ⟨List.mem_of_getElem? (i := 999) rfl, rfl⟩
set_option maxRecDepth 100000 in
theorem w_code_Mo_goesSo : Jvm.Cond.code M_Mo_goesSo.1 M_Mo_goesSo.2.1 M_Mo_goesSo.2.2.1 M_Mo_goesSo.2.2.2.1 ∈ am_tw := List.mem_filter.mpr ⟨List.mem_of_getElem? (i := 1003) rfl, rfl⟩
set_option maxRecDepth 100000 in
theorem w_code_Mo_sure : Jvm.Cond.code M_Mo_sure.1 M_Mo_sure.2.1 M_Mo_sure.2.2.1 M_Mo_sure.2.2.2.1 ∈ am_tw := List.mem_filter.mpr ⟨List.mem_of_getElem? (i := 1007) rfl, rfl⟩
set_option maxRecDepth 100000 in
theorem w_code_Mo_look : Jvm.Cond.code M_Mo_look.1 M_Mo_look.2.1 M_Mo_look.2.2.1 M_Mo_look.2.2.2.1 ∈ am_tw := List.mem_filter.mpr ⟨List.mem_of_getElem? (i := 1011) rfl, rfl⟩
set_option maxRecDepth 100000 in
theorem w_code_Mo_write : Jvm.Cond.code M_Mo_write.1 M_Mo_write.2.1 M_Mo_write.2.2.1 M_Mo_write.2.2.2.1 ∈ am_tw := List.mem_filter.mpr ⟨List.mem_of_getElem? (i := 1015) rfl, rfl⟩
set_option maxRecDepth 100000 in
theorem w_code_Mo_judge : Jvm.Cond.code M_Mo_judge.1 M_Mo_judge.2.1 M_Mo_judge.2.2.1 M_Mo_judge.2.2.2.1 ∈ am_tw := List.mem_filter.mpr ⟨List.mem_of_getElem? (i := 1019) rfl, rfl⟩
set_option maxRecDepth 100000 in
theorem w_code_Mo_tear : Jvm.Cond.code M_Mo_tear.1 M_Mo_tear.2.1 M_Mo_tear.2.2.1 M_Mo_tear.2.2.2.1 ∈ am_tw := List.mem_filter.mpr ⟨List.mem_of_getElem? (i := 1023) rfl, rfl⟩
set_option maxRecDepth 100000 in
theorem w_code_Mo_seed : Jvm.Cond.code M_Mo_seed.1 M_Mo_seed.2.1 M_Mo_seed.2.2.1 M_Mo_seed.2.2.2.1 ∈ am_tw := List.mem_filter.mpr ⟨List.mem_of_getElem? (i := 1027) rfl, rfl⟩
set_option maxRecDepth 100000 in
theorem w_code_Mo_keep : Jvm.Cond.code M_Mo_keep.1 M_Mo_keep.2.1 M_Mo_keep.2.2.1 M_Mo_keep.2.2.2.1 ∈ am_tw := List.mem_filter.mpr ⟨List.mem_of_getElem? (i := 1031) rfl, rfl⟩
set_option maxRecDepth 100000 in
theorem w_code_Mo_goBack : Jvm.Cond.code M_Mo_goBack.1 M_Mo_goBack.2.1 M_Mo_goBack.2.2.1 M_Mo_goBack.2.2.2.1 ∈ am_tw := List.mem_filter.mpr ⟨List.mem_of_getElem? (i := 1035) rfl, rfl⟩
def am_cwd (M : am_M) : Prop := M = M_L_law ∨ Jvm.Cond.code M.1 M.2.1 M.2.2.1 M.2.2.2.1 ∈ am_tw
theorem w_row0 : ∀ M ∈ ([M_Sp_init, M_Text_init, M_Reader_init, M_Line_init, M_Scene_init, M_Deeds_init, M_Witness_init, M_Book_init, M_Draws_init, M_Image_init, M_Sp_feed, M_Text_add, M_Sp_line, M_Reader_read, M_Line_clear, M_Scene_clear] : List am_M), am_cwd M := List.forall_mem_cons.mpr ⟨Or.inr w_code_Sp_init, List.forall_mem_cons.mpr ⟨Or.inr w_code_Text_init, List.forall_mem_cons.mpr ⟨Or.inr w_code_Reader_init, List.forall_mem_cons.mpr ⟨Or.inr w_code_Line_init, List.forall_mem_cons.mpr ⟨Or.inr w_code_Scene_init, List.forall_mem_cons.mpr ⟨Or.inr w_code_Deeds_init, List.forall_mem_cons.mpr ⟨Or.inr w_code_Witness_init, List.forall_mem_cons.mpr ⟨Or.inr w_code_Book_init, List.forall_mem_cons.mpr ⟨Or.inr w_code_Draws_init, List.forall_mem_cons.mpr ⟨Or.inr w_code_Image_init, List.forall_mem_cons.mpr ⟨Or.inr w_code_Sp_feed, List.forall_mem_cons.mpr ⟨Or.inr w_code_Text_add, List.forall_mem_cons.mpr ⟨Or.inr w_code_Sp_line, List.forall_mem_cons.mpr ⟨Or.inr w_code_Reader_read, List.forall_mem_cons.mpr ⟨Or.inr w_code_Line_clear, List.forall_mem_cons.mpr ⟨Or.inr w_code_Scene_clear, fun _ h => absurd h List.not_mem_nil⟩⟩⟩⟩⟩⟩⟩⟩⟩⟩⟩⟩⟩⟩⟩⟩
theorem w_row1 : ∀ M ∈ ([M_Reader_skipBlanks, M_Text_letterAt, M_Reader_readClause, M_Line_isTold, M_Reader_blame, M_Reader_readStations, M_Reader_readNumber, M_Reader_isFigure, M_Reader_readEnd, M_Reader_readPerson, M_Sp_bit, M_Sp_withBit, M_Line_takeFrom, M_Scene_takeFrom, M_Sp_fault, M_Sp_told] : List am_M), am_cwd M := List.forall_mem_cons.mpr ⟨Or.inr w_code_Reader_skipBlanks, List.forall_mem_cons.mpr ⟨Or.inr w_code_Text_letterAt, List.forall_mem_cons.mpr ⟨Or.inr w_code_Reader_readClause, List.forall_mem_cons.mpr ⟨Or.inr w_code_Line_isTold, List.forall_mem_cons.mpr ⟨Or.inr w_code_Reader_blame, List.forall_mem_cons.mpr ⟨Or.inr w_code_Reader_readStations, List.forall_mem_cons.mpr ⟨Or.inr w_code_Reader_readNumber, List.forall_mem_cons.mpr ⟨Or.inr w_code_Reader_isFigure, List.forall_mem_cons.mpr ⟨Or.inr w_code_Reader_readEnd, List.forall_mem_cons.mpr ⟨Or.inr w_code_Reader_readPerson, List.forall_mem_cons.mpr ⟨Or.inr w_code_Sp_bit, List.forall_mem_cons.mpr ⟨Or.inr w_code_Sp_withBit, List.forall_mem_cons.mpr ⟨Or.inr w_code_Line_takeFrom, List.forall_mem_cons.mpr ⟨Or.inr w_code_Scene_takeFrom, List.forall_mem_cons.mpr ⟨Or.inr w_code_Sp_fault, List.forall_mem_cons.mpr ⟨Or.inr w_code_Sp_told, fun _ h => absurd h List.not_mem_nil⟩⟩⟩⟩⟩⟩⟩⟩⟩⟩⟩⟩⟩⟩⟩⟩
theorem w_row2 : ∀ M ∈ ([M_Scene_awaited, M_Scene_shows, M_Scene_alarm, M_Scene_arrived, M_Scene_hasArrived, M_Sp_person, M_Line_hasPerson, M_Sp_station, M_Line_hasStation, M_Scene_standing, M_Scene_mostShown, M_Sp_mien, M_Deeds_note, M_Sp_feet, M_Sp_flowers, M_Sp_walk] : List am_M), am_cwd M := List.forall_mem_cons.mpr ⟨Or.inr w_code_Scene_awaited, List.forall_mem_cons.mpr ⟨Or.inr w_code_Scene_shows, List.forall_mem_cons.mpr ⟨Or.inr w_code_Scene_alarm, List.forall_mem_cons.mpr ⟨Or.inr w_code_Scene_arrived, List.forall_mem_cons.mpr ⟨Or.inr w_code_Scene_hasArrived, List.forall_mem_cons.mpr ⟨Or.inr w_code_Sp_person, List.forall_mem_cons.mpr ⟨Or.inr w_code_Line_hasPerson, List.forall_mem_cons.mpr ⟨Or.inr w_code_Sp_station, List.forall_mem_cons.mpr ⟨Or.inr w_code_Line_hasStation, List.forall_mem_cons.mpr ⟨Or.inr w_code_Scene_standing, List.forall_mem_cons.mpr ⟨Or.inr w_code_Scene_mostShown, List.forall_mem_cons.mpr ⟨Or.inr w_code_Sp_mien, List.forall_mem_cons.mpr ⟨Or.inr w_code_Deeds_note, List.forall_mem_cons.mpr ⟨Or.inr w_code_Sp_feet, List.forall_mem_cons.mpr ⟨Or.inr w_code_Sp_flowers, List.forall_mem_cons.mpr ⟨Or.inr w_code_Sp_walk, fun _ h => absurd h List.not_mem_nil⟩⟩⟩⟩⟩⟩⟩⟩⟩⟩⟩⟩⟩⟩⟩⟩
theorem w_row3 : ∀ M ∈ ([M_Sp_fog, M_Sp_train, M_Sp_trainsRefused, M_Scene_runTrain, M_Scene_stopsOfNext, M_Line_allStations, M_Scene_letOut, M_Scene_takeIn, M_Scene_emptyAtLast, M_Sp_drift, M_Sp_drawDay, M_Draws_next, M_Sp_undo, M_Deeds_takeBack, M_Sp_stops, M_Sp_calm] : List am_M), am_cwd M := List.forall_mem_cons.mpr ⟨Or.inr w_code_Sp_fog, List.forall_mem_cons.mpr ⟨Or.inr w_code_Sp_train, List.forall_mem_cons.mpr ⟨Or.inr w_code_Sp_trainsRefused, List.forall_mem_cons.mpr ⟨Or.inr w_code_Scene_runTrain, List.forall_mem_cons.mpr ⟨Or.inr w_code_Scene_stopsOfNext, List.forall_mem_cons.mpr ⟨Or.inr w_code_Line_allStations, List.forall_mem_cons.mpr ⟨Or.inr w_code_Scene_letOut, List.forall_mem_cons.mpr ⟨Or.inr w_code_Scene_takeIn, List.forall_mem_cons.mpr ⟨Or.inr w_code_Scene_emptyAtLast, List.forall_mem_cons.mpr ⟨Or.inr w_code_Sp_drift, List.forall_mem_cons.mpr ⟨Or.inr w_code_Sp_drawDay, List.forall_mem_cons.mpr ⟨Or.inr w_code_Draws_next, List.forall_mem_cons.mpr ⟨Or.inr w_code_Sp_undo, List.forall_mem_cons.mpr ⟨Or.inr w_code_Deeds_takeBack, List.forall_mem_cons.mpr ⟨Or.inr w_code_Sp_stops, List.forall_mem_cons.mpr ⟨Or.inr w_code_Sp_calm, fun _ h => absurd h List.not_mem_nil⟩⟩⟩⟩⟩⟩⟩⟩⟩⟩⟩⟩⟩⟩⟩⟩
theorem w_row4 : ∀ M ∈ ([M_Sp_journey, M_Sp_never, M_Sp_cut, M_Sp_arrivesThough, M_Sp_aunts, M_Sp_endsAt, M_Sp_chance, M_Sp_ran, M_Witness_add, M_Sp_hoped, M_Witness_find, M_Witness_tryHopeful, M_Witness_fits, M_Sp_sure, M_Line_allPersons, M_Sp_look] : List am_M), am_cwd M := List.forall_mem_cons.mpr ⟨Or.inr w_code_Sp_journey, List.forall_mem_cons.mpr ⟨Or.inr w_code_Sp_never, List.forall_mem_cons.mpr ⟨Or.inr w_code_Sp_cut, List.forall_mem_cons.mpr ⟨Or.inr w_code_Sp_arrivesThough, List.forall_mem_cons.mpr ⟨Or.inr w_code_Sp_aunts, List.forall_mem_cons.mpr ⟨Or.inr w_code_Sp_endsAt, List.forall_mem_cons.mpr ⟨Or.inr w_code_Sp_chance, List.forall_mem_cons.mpr ⟨Or.inr w_code_Sp_ran, List.forall_mem_cons.mpr ⟨Or.inr w_code_Witness_add, List.forall_mem_cons.mpr ⟨Or.inr w_code_Sp_hoped, List.forall_mem_cons.mpr ⟨Or.inr w_code_Witness_find, List.forall_mem_cons.mpr ⟨Or.inr w_code_Witness_tryHopeful, List.forall_mem_cons.mpr ⟨Or.inr w_code_Witness_fits, List.forall_mem_cons.mpr ⟨Or.inr w_code_Sp_sure, List.forall_mem_cons.mpr ⟨Or.inr w_code_Line_allPersons, List.forall_mem_cons.mpr ⟨Or.inr w_code_Sp_look, fun _ h => absurd h List.not_mem_nil⟩⟩⟩⟩⟩⟩⟩⟩⟩⟩⟩⟩⟩⟩⟩⟩
theorem w_row5 : ∀ M ∈ ([M_Witness_greatestPart, M_Sp_write, M_Book_add, M_Sp_judge, M_Book_firstWrong, M_Sp_tear, M_Sp_seed, M_Sp_keep, M_Sp_goBack, M_Mo_init, M_Mo_feed, M_Mo_in, M_Mo_line, M_Mo_skip, M_Mo_here, M_Mo_readsLine] : List am_M), am_cwd M := List.forall_mem_cons.mpr ⟨Or.inr w_code_Witness_greatestPart, List.forall_mem_cons.mpr ⟨Or.inr w_code_Sp_write, List.forall_mem_cons.mpr ⟨Or.inr w_code_Book_add, List.forall_mem_cons.mpr ⟨Or.inr w_code_Sp_judge, List.forall_mem_cons.mpr ⟨Or.inr w_code_Book_firstWrong, List.forall_mem_cons.mpr ⟨Or.inr w_code_Sp_tear, List.forall_mem_cons.mpr ⟨Or.inr w_code_Sp_seed, List.forall_mem_cons.mpr ⟨Or.inr w_code_Sp_keep, List.forall_mem_cons.mpr ⟨Or.inr w_code_Sp_goBack, List.forall_mem_cons.mpr ⟨Or.inr w_code_Mo_init, List.forall_mem_cons.mpr ⟨Or.inr w_code_Mo_feed, List.forall_mem_cons.mpr ⟨Or.inr w_code_Mo_in, List.forall_mem_cons.mpr ⟨Or.inr w_code_Mo_line, List.forall_mem_cons.mpr ⟨Or.inr w_code_Mo_skip, List.forall_mem_cons.mpr ⟨Or.inr w_code_Mo_here, List.forall_mem_cons.mpr ⟨Or.inr w_code_Mo_readsLine, fun _ h => absurd h List.not_mem_nil⟩⟩⟩⟩⟩⟩⟩⟩⟩⟩⟩⟩⟩⟩⟩⟩
theorem w_row6 : ∀ M ∈ ([M_Mo_readsFirst, M_Mo_sign, M_Mo_fails, M_Mo_number, M_Mo_readsPerson, M_Mo_readsMet, M_Mo_fault, M_Mo_told, M_Mo_awaitedSet, M_Mo_isAwaited, M_Mo_shows, M_Mo_arrivedSet, M_Mo_person, M_Mo_isPerson, M_Mo_station, M_Mo_isStation] : List am_M), am_cwd M := List.forall_mem_cons.mpr ⟨Or.inr w_code_Mo_readsFirst, List.forall_mem_cons.mpr ⟨Or.inr w_code_Mo_sign, List.forall_mem_cons.mpr ⟨Or.inr w_code_Mo_fails, List.forall_mem_cons.mpr ⟨Or.inr w_code_Mo_number, List.forall_mem_cons.mpr ⟨Or.inr w_code_Mo_readsPerson, List.forall_mem_cons.mpr ⟨Or.inr w_code_Mo_readsMet, List.forall_mem_cons.mpr ⟨Or.inr w_code_Mo_fault, List.forall_mem_cons.mpr ⟨Or.inr w_code_Mo_told, List.forall_mem_cons.mpr ⟨Or.inr w_code_Mo_awaitedSet, List.forall_mem_cons.mpr ⟨Or.inr w_code_Mo_isAwaited, List.forall_mem_cons.mpr ⟨Or.inr w_code_Mo_shows, List.forall_mem_cons.mpr ⟨Or.inr w_code_Mo_arrivedSet, List.forall_mem_cons.mpr ⟨Or.inr w_code_Mo_person, List.forall_mem_cons.mpr ⟨Or.inr w_code_Mo_isPerson, List.forall_mem_cons.mpr ⟨Or.inr w_code_Mo_station, List.forall_mem_cons.mpr ⟨Or.inr w_code_Mo_isStation, fun _ h => absurd h List.not_mem_nil⟩⟩⟩⟩⟩⟩⟩⟩⟩⟩⟩⟩⟩⟩⟩⟩
theorem w_row7 : ∀ M ∈ ([M_Mo_mien, M_Mo_notes, M_Mo_laysBy, M_Mo_feet, M_Mo_flowers, M_Mo_walk, M_Mo_fog, M_Mo_train, M_Mo_run, M_Mo_has, M_Mo_getOut, M_Mo_drift, M_Mo_drawn, M_Mo_undo, M_Mo_read, M_Mo_stops] : List am_M), am_cwd M := List.forall_mem_cons.mpr ⟨Or.inr w_code_Mo_mien, List.forall_mem_cons.mpr ⟨Or.inr w_code_Mo_notes, List.forall_mem_cons.mpr ⟨Or.inr w_code_Mo_laysBy, List.forall_mem_cons.mpr ⟨Or.inr w_code_Mo_feet, List.forall_mem_cons.mpr ⟨Or.inr w_code_Mo_flowers, List.forall_mem_cons.mpr ⟨Or.inr w_code_Mo_walk, List.forall_mem_cons.mpr ⟨Or.inr w_code_Mo_fog, List.forall_mem_cons.mpr ⟨Or.inr w_code_Mo_train, List.forall_mem_cons.mpr ⟨Or.inr w_code_Mo_run, List.forall_mem_cons.mpr ⟨Or.inr w_code_Mo_has, List.forall_mem_cons.mpr ⟨Or.inr w_code_Mo_getOut, List.forall_mem_cons.mpr ⟨Or.inr w_code_Mo_drift, List.forall_mem_cons.mpr ⟨Or.inr w_code_Mo_drawn, List.forall_mem_cons.mpr ⟨Or.inr w_code_Mo_undo, List.forall_mem_cons.mpr ⟨Or.inr w_code_Mo_read, List.forall_mem_cons.mpr ⟨Or.inr w_code_Mo_stops, fun _ h => absurd h List.not_mem_nil⟩⟩⟩⟩⟩⟩⟩⟩⟩⟩⟩⟩⟩⟩⟩⟩
theorem w_row8 : ∀ M ∈ ([M_Mo_nextStops, M_Mo_begin, M_Mo_back, M_Mo_calm, M_Mo_journey, M_Mo_never, M_Mo_cut, M_Mo_bits, M_Mo_aunts, M_Mo_chance, M_Mo_ran, M_Mo_hoped, M_Mo_setHopes, M_Mo_goesSo, M_Mo_sure, M_Mo_look] : List am_M), am_cwd M := List.forall_mem_cons.mpr ⟨Or.inr w_code_Mo_nextStops, List.forall_mem_cons.mpr ⟨Or.inr w_code_Mo_begin, List.forall_mem_cons.mpr ⟨Or.inr w_code_Mo_back, List.forall_mem_cons.mpr ⟨Or.inr w_code_Mo_calm, List.forall_mem_cons.mpr ⟨Or.inr w_code_Mo_journey, List.forall_mem_cons.mpr ⟨Or.inr w_code_Mo_never, List.forall_mem_cons.mpr ⟨Or.inr w_code_Mo_cut, List.forall_mem_cons.mpr ⟨Or.inr w_code_Mo_bits, List.forall_mem_cons.mpr ⟨Or.inr w_code_Mo_aunts, List.forall_mem_cons.mpr ⟨Or.inr w_code_Mo_chance, List.forall_mem_cons.mpr ⟨Or.inr w_code_Mo_ran, List.forall_mem_cons.mpr ⟨Or.inr w_code_Mo_hoped, List.forall_mem_cons.mpr ⟨Or.inr w_code_Mo_setHopes, List.forall_mem_cons.mpr ⟨Or.inr w_code_Mo_goesSo, List.forall_mem_cons.mpr ⟨Or.inr w_code_Mo_sure, List.forall_mem_cons.mpr ⟨Or.inr w_code_Mo_look, fun _ h => absurd h List.not_mem_nil⟩⟩⟩⟩⟩⟩⟩⟩⟩⟩⟩⟩⟩⟩⟩⟩
theorem w_row9 : ∀ M ∈ ([M_Mo_write, M_Mo_judge, M_Mo_tear, M_Mo_seed, M_Mo_keep, M_Mo_goBack, M_L_law] : List am_M), am_cwd M := List.forall_mem_cons.mpr ⟨Or.inr w_code_Mo_write, List.forall_mem_cons.mpr ⟨Or.inr w_code_Mo_judge, List.forall_mem_cons.mpr ⟨Or.inr w_code_Mo_tear, List.forall_mem_cons.mpr ⟨Or.inr w_code_Mo_seed, List.forall_mem_cons.mpr ⟨Or.inr w_code_Mo_keep, List.forall_mem_cons.mpr ⟨Or.inr w_code_Mo_goBack, List.forall_mem_cons.mpr ⟨Or.inl rfl, fun _ h => absurd h List.not_mem_nil⟩⟩⟩⟩⟩⟩⟩
theorem w_rows : ∀ r ∈ am_tabL, ∀ M ∈ r, am_cwd M := List.forall_mem_cons.mpr ⟨w_row0, List.forall_mem_cons.mpr ⟨w_row1, List.forall_mem_cons.mpr ⟨w_row2, List.forall_mem_cons.mpr ⟨w_row3, List.forall_mem_cons.mpr ⟨w_row4, List.forall_mem_cons.mpr ⟨w_row5, List.forall_mem_cons.mpr ⟨w_row6, List.forall_mem_cons.mpr ⟨w_row7, List.forall_mem_cons.mpr ⟨w_row8, List.forall_mem_cons.mpr ⟨w_row9, fun _ h => absurd h List.not_mem_nil⟩⟩⟩⟩⟩⟩⟩⟩⟩⟩
theorem am_nth_all {α : Type} {Pr : α → Prop} {d : α} (hd : Pr d) : ∀ (l : List α) (n : Nat), (∀ x ∈ l, Pr x) → Pr (am_nth d l n)
  | [], _, _ => hd
  | x :: _, 0, h => h x List.mem_cons_self
  | _ :: l, n + 1, h => am_nth_all hd l n (fun y hy => h y (List.mem_cons_of_mem _ hy))
theorem am_tab_all {Pr : am_M → Prop} (hd : Pr M_L_law) (h : ∀ r ∈ am_tabL, ∀ M ∈ r, Pr M) (k : Nat) : Pr (am_tab k) := by
  unfold am_tab am_at2
  exact am_nth_all hd _ _ (am_nth_all (Pr := fun r : List am_M => ∀ M ∈ r, Pr M) (fun M hM => absurd hM List.not_mem_nil) am_tabL _ h)
theorem w_code (k : Nat) : am_cwd (am_tab k) := am_tab_all (Or.inl rfl) w_rows k
theorem w_ini : ∀ k ∈ List.range 150, Jvm.Cond.initialized (am_tab k).1.cls ∈ am_tw := am_wall (fun k : Nat => Jvm.Cond.initialized (am_tab k).1.cls) (List.range 150) [43, 44, 45, 46, 47, 48, 49, 50, 51, 52, 43, 44, 43, 45, 46, 47, 45, 44, 45, 46, 45, 45, 45, 45, 45, 45, 43, 43, 46, 47, 43, 43, 47, 47, 47, 47, 47, 43, 46, 43, 46, 47, 47, 43, 48, 43, 43, 43, 43, 43, 43, 47, 47, 46, 47, 47, 47, 43, 43, 51, 43, 48, 43, 43, 43, 43, 43, 43, 43, 43, 43, 43, 49, 43, 49, 49, 49, 43, 46, 43, 49, 43, 50, 43, 50, 43, 43, 43, 43, 53, 53, 53, 53, 53, 53, 53, 53, 53, 53, 53, 53, 53, 53, 53, 53, 53, 53, 53, 53, 53, 53, 53, 53, 53, 53, 53, 53, 53, 53, 53, 53, 53, 53, 53, 53, 53, 53, 53, 53, 53, 53, 53, 53, 53, 53, 53, 53, 53, 53, 53, 53, 53, 53, 53, 53, 53, 53, 53, 53, 53] (by decide +kernel) (by decide +kernel)
theorem w_cls : ∀ k ∈ List.range 150, (am_tab k).1.cls = am_own (am_tab k).2.2.2.2.1 ∧ (am_tab k).1.cls ≠ "SpiteLineLaw" ∧ plainName (am_tab k).1.cls = true ∧ (am_tab k).1.cls ≠ "java/lang/invoke/MethodHandle" ∧ (am_tab k).1.cls ≠ "java/lang/invoke/VarHandle" := by decide +kernel
theorem w_im : ∀ k ∈ am_lin, Jvm.Cond.instanceMethod (am_tab k).1 ∈ am_tw := am_wall (fun k : Nat => Jvm.Cond.instanceMethod (am_tab k).1) am_lin [59, 67, 83, 89, 126, 194, 214, 239, 256, 268, 324, 329, 334, 338, 342, 346, 351, 354, 359, 362, 367, 371, 375, 382, 386, 395, 402, 407, 411, 415, 419, 424, 428, 432, 436, 440, 447, 451, 455, 459, 466, 470, 475, 480, 484, 491, 497, 502, 505, 509, 513, 519, 524, 528, 531, 536, 539, 547, 551, 555, 560, 567, 572, 576, 581, 584, 589, 593, 602, 606, 610, 614, 619, 624, 628, 632, 636, 640, 645, 649, 653, 657, 661, 665, 669, 673, 679, 790, 799, 804, 808, 812, 816, 820, 824, 828, 832, 836, 839, 843, 848, 852, 856, 860, 863, 868, 872, 877, 880, 885, 889, 892, 896, 900, 904, 909, 914, 921, 924, 929, 936, 941, 944, 949, 953, 957, 960, 964, 968, 972, 979, 983, 989, 993, 998, 1002, 1005, 1009, 1013, 1017, 1021, 1025, 1029, 1033] (by decide +kernel) (by decide +kernel)
theorem w_sm : ∀ k ∈ am_lst, Jvm.Cond.static (am_tab k).1 ∈ am_tw := am_wall (fun k : Nat => Jvm.Cond.static (am_tab k).1) am_lst [378, 389, 392, 794, 917, 976] (by decide +kernel) (by decide +kernel)
theorem w_sel : ∀ k ∈ am_lse, Jvm.Cond.selects (am_tab k).1.cls (am_tab k).1 (am_tab k).1 ∈ am_tw := am_wall (fun k : Nat => Jvm.Cond.selects (am_tab k).1.cls (am_tab k).1 (am_tab k).1) am_lse [325, 330, 335, 339, 343, 347, 0, 355, 1, 363, 2, 3, 4, 5, 6, 396, 403, 408, 412, 416, 420, 425, 429, 433, 437, 441, 448, 452, 456, 460, 467, 471, 476, 481, 485, 492, 498, 7, 506, 510, 514, 8, 9, 10, 532, 11, 540, 548, 552, 556, 561, 568, 573, 577, 12, 585, 13, 594, 603, 607, 611, 615, 14, 15, 629, 633, 637, 641, 646, 650, 654, 658, 662, 666, 670, 674, 791, 800, 16, 17, 18, 19, 20, 21, 22, 23, 24, 840, 844, 25, 26, 27, 28, 864, 29, 873, 30, 881, 31, 32, 893, 897, 901, 905, 910, 33, 34, 925, 35, 937, 36, 945, 37, 38, 39, 961, 965, 969, 973, 980, 984, 990, 994, 40, 41, 1006, 1010, 1014, 1018, 1022, 1026, 1030, 1034] (by decide +kernel) (by decide +kernel)
theorem w_lse : ∀ k ∈ am_lse, k ∈ am_lin ∧ (am_tab k).2.2.2.2.1 < 11 := by decide +kernel

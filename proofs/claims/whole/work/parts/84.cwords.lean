/-! ===== what the constructors need of the tables ===== -/
abbrev mX0_init : rf_M := (0, yX0_init, cX0_init, 1, none, 0, false)
abbrev mX1_init : rf_M := (1, yX1_init, cX1_init, 1, none, 0, false)
abbrev mX2_init : rf_M := (2, yX2_init, cX2_init, 1, none, 0, false)
abbrev mX3_init : rf_M := (3, yX3_init, cX3_init, 1, none, 0, false)
abbrev mX4_init : rf_M := (4, yX4_init, cX4_init, 1, none, 0, false)
abbrev mX5_init : rf_M := (5, yX5_init, cX5_init, 1, none, 0, false)
abbrev mX6_init : rf_M := (6, yX6_init, cX6_init, 1, none, 0, false)
abbrev mX7_init : rf_M := (7, yX7_init, cX7_init, 1, none, 0, false)
abbrev mX8_init : rf_M := (8, yX8_init, cX8_init, 1, none, 0, false)
abbrev mX9_init : rf_M := (9, yX9_init, cX9_init, 1, none, 0, false)
abbrev mX10_init : rf_M := (10, yX10_init, cX10_init, 2, none, 0, false)
def cf_ms : List rf_M := [mX0_init, mX1_init, mX2_init, mX3_init, mX4_init, mX5_init, mX6_init, mX7_init, mX8_init, mX9_init, mX10_init]
theorem cf_ms_c : ∀ e ∈ cf_ms, rf_cwl e ∈ lw_tbl := rf_ats_in (ps := [303, 235, 137, 131, 93, 258, 286, 113, 189, 85, 1006]) (by decide +kernel)
theorem cf_ms_n : ∀ e ∈ cf_ms, rf_nwl e ∈ lw_tbl := rf_ats_in (ps := [302, 234, 136, 130, 92, 257, 285, 112, 188, 84, 1005]) (by decide +kernel)
theorem cf_ms_q : ∀ e ∈ cf_ms, rf_mq e = true := by decide +kernel
def cf_wl : List Cond := [.arrayClass .int, .arrayClass .byte, .instanceMethod Lib.objectInit, .code Lib.objectInit ⟨#[0xb1]⟩ 1 none, .methodLink RX0 3 Lib.objectInit, .methodLink RX1 3 Lib.objectInit, .methodLink RX2 3 Lib.objectInit, .methodLink RX3 3 Lib.objectInit, .methodLink RX4 3 Lib.objectInit, .methodLink RX5 3 Lib.objectInit, .methodLink RX6 3 Lib.objectInit, .methodLink RX7 3 Lib.objectInit, .methodLink RX8 3 Lib.objectInit, .methodLink RX9 1 Lib.objectInit, .methodLink RX10 1 Lib.objectInit, .classLink "FeltColdLaw" 7 RX9, .instantiable RX9 11, .methodLink "FeltColdLaw" 9 yX9_init, .classLink RX9 7 RX4, .instantiable RX4 2, .methodLink RX9 9 yX4_init, .classLink RX4 9 "[[I", .classLink RX9 16 RX7, .instantiable RX7 2, .methodLink RX9 18 yX7_init, .classLink RX7 9 "[[B", .classLink RX9 23 RX3, .instantiable RX3 3, .classLink RX3 9 RX2, .instantiable RX2 8, .classLink RX9 30 RX8, .instantiable RX8 9, .classLink RX8 9 RX2, .classLink RX9 37 RX1, .instantiable RX1 4, .methodLink RX9 39 yX1_init, .classLink RX1 15 "[[I", .classLink RX9 44 RX5, .instantiable RX5 6, .classLink RX9 51 RX6, .instantiable RX6 3, .classLink RX9 58 RX0, .instantiable RX0 2, .classLink "FeltColdLaw" 10 RX10, .instantiable RX10 30, .methodLink "FeltColdLaw" 12 yX10_init]
theorem cf_wl_ok : ∀ e ∈ cf_wl, e ∈ lw_tbl := rf_ats_in (f := id) (ps := [108, 126, 87, 88, 304, 236, 138, 132, 94, 259, 287, 114, 190, 86, 1007, 81, 82, 83, 89, 90, 91, 95, 109, 110, 111, 115, 127, 128, 133, 134, 185, 186, 191, 231, 232, 233, 237, 254, 255, 282, 283, 299, 300, 1002, 1003, 1004]) (by rw [List.map_id]; decide +kernel)
theorem cf_wl_g : cf_wl.all goodWord = true := by decide +kernel
theorem cf_in (i : Nat) {w : Cond} (h : cf_wl[i]? = some w) : w ∈ rf_tb := rf_in_tb (cf_wl_ok _ (List.mem_of_getElem? h)) (List.all_eq_true.mp cf_wl_g _ (List.mem_of_getElem? h))
def cf_nl : List Cond := [.methodLinkNest RX9 25 yX3_init "FeltCold", .methodLinkNest RX3 11 yX2_init "FeltCold", .methodLinkNest RX9 32 yX8_init "FeltCold", .methodLinkNest RX8 11 yX2_init "FeltCold", .methodLinkNest RX9 46 yX5_init "FeltCold", .methodLinkNest RX9 53 yX6_init "FeltCold", .methodLinkNest RX9 60 yX0_init "FeltCold"]
theorem cf_nl_ok : ∀ e ∈ cf_nl, e ∈ lw_tbl := rf_ats_in (f := id) (ps := [129, 135, 187, 192, 256, 284, 301]) (by rw [List.map_id]; decide +kernel)
theorem cf_nin (i : Nat) {w : Cond} (h : cf_nl[i]? = some w) (g : rf_isN w = true) : w ∈ rf_nw := rf_in_nw (cf_nl_ok _ (List.mem_of_getElem? h)) g
theorem cf_ov : ∀ e ∈ ([.arrayOver (.array .int), .arrayOver (.array .byte)] : List Cond), e ∈ lw_tbl := rf_ats_in (f := id) (ps := [96, 116]) (by rw [List.map_id]; decide +kernel)

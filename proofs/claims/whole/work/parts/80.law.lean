def R_law : String := "FeltColdLaw"
def lw_P (b : Addr) (xs : List Int32) (args : Array Value) (s : State) : Prop := args = #[.ref b] ∧ s.IntsAt b xs ∧ xs.length ≤ 3072 ∧ (Jvm.Cond.and given_1 narrow_1).before args s = true
def lw_Q (_ : Array Value) (s : State) (o : Outcome) (t : State) : Prop := o = .returned (some (.int 1)) ∧ Framed s o t [] 600000 7302250
def lw_Z (below : List Frame) (a : Array Value) (s : State) : State → Prop := fun t => ∃ o, t.status = .running ∧ Ended t below o ∧ lw_Q a s o t
/-- the law's own end, with 1 on the stack, nothing written that was there before, its room as the claim has it -/
theorem lw_ret {p : Program} {l : Launch} {e : Env} {s : State} {m : MethodId} {below : List Frame} {meth : Method} {c : Code} {b : Nat} (hx : p.tables.exec = Jvm.exec) (hb : c.code = code) (hr : meth.sig.returnType = ret) (hlocks : meth.locks = false) {pc : Nat} {H : Heap} {ls : Array Slot} (hdg : decode code pc = .ok (.ireturn, 1)) : W p l e room_1 s m #[Value.ref b] below meth c H [] 600000 7302250 (lw_Z below #[Value.ref b] s) (F0 m pc ls [.int 1]) := by
  intro T hT X
  obtain ⟨fs, hret, hrun, hended, hW, hframe⟩ := X.leave (v := some (.int 1)) (hlocks := hlocks) (fun h => by rw [hr] at h; cases h)
  have hmeth' : T.vm.method? m = some meth := X.method'
  refine ⟨T.setFrames fs, ?_, .returned (some (.int 1)), hrun, hended, rfl, ⟨_, rfl⟩, hW, hframe⟩
  jvm_step X.here [X.here.top, hx, hb, hdg, hmeth', hr, ret, narrow_b1]
  (try refine ⟨rfl, ?_⟩); (try refine ⟨rfl, ?_⟩)
  first | (intro acts; rw [hret _ acts rfl rfl rfl]) | rw [hret _ _ rfl rfl rfl]
  exact Steps.refl _
/-- what holds at the law's entry: the machine, the code, the tables' words (any of lw_tbl by 'hts w (by decide +kernel)'), the script of L ints xs at the cell b, what the Statement gives of the start (any of its parts by flat_of_before) -/
def lw_At (p : Program) (s : State) (m : MethodId) (meth : Method) (c : Code) (b L : Nat) (xs : Nat → Int32) : Prop :=
  p.tables.exec = Jvm.exec ∧ c.code = code ∧ meth.sig.returnType = ret ∧ c.maxLocals = 4 ∧ s.vm.findClass R_law = some m.cls ∧ (∀ w ∈ lw_tbl, w.before #[Value.ref b] s = true) ∧ va_X b L xs s s.heap ∧ b < s.heap.size ∧ meth.locks = false ∧ (Jvm.Cond.and given_1 narrow_1).before #[Value.ref b] s = true
/-! ===== the law ===== -/
theorem lx_dec {e : rf_E} {l : List rf_E} (h : l.all (rf_dec code) = true) (he : e ∈ l) : decode code e.1 = .ok (e.2.1, e.2.2.1) := rf_dec_ok (List.all_eq_true.mp h e he)
def lx_r0 : List rf_E := [(0, .new 7, 3, 0), (3, .dup, 1, 0), (4, .invokespecial 9, 3, 0), (7, .astore_n 1, 1, 0), (8, .new 10, 3, 0), (11, .dup, 1, 0), (12, .invokespecial 12, 3, 0), (15, .astore_n 2, 1, 0), (16, .iconst 0, 1, 0), (17, .istore_n 3, 1, 0), (18, .iload_n 3, 1, 0), (19, .aload_n 0, 1, 0), (20, .arraylength, 1, 0), (21, .bipush 6, 2, 0), (23, .isub, 1, 0), (24, .if_icmp .gt 1472, 3, 0), (27, .aload_n 0, 1, 0), (28, .iload_n 3, 1, 0), (29, .iaload, 1, 0), (30, .bipush 63, 2, 0), (32, .iand, 1, 0), (33, .tableswitch 1457 0 46 #[203, 236, 279, 312, 335, 398, 421, 454, 497, 520, 543, 576, 609, 642, 675, 688, 701, 724, 757, 790, 813, 836, 859, 882, 915, 928, 961, 984, 1007, 1030, 1043, 1066, 1089, 1112, 1145, 1178, 1201, 1244, 1277, 1310, 1343, 1356, 1370, 1384, 1407, 1420, 1443], 203, 0), (236, .aload_n 1, 1, 0), (237, .aload_n 0, 1, 0), (238, .iload_n 3, 1, 0), (239, .iconst 1, 1, 0), (240, .iadd, 1, 0), (241, .iaload, 1, 0), (242, .aload_n 0, 1, 0), (243, .iload_n 3, 1, 0), (244, .iconst 2, 1, 0), (245, .iadd, 1, 0), (246, .iaload, 1, 0), (247, .invokevirtual 13, 3, 0), (250, .aload_n 2, 1, 0), (251, .aload_n 0, 1, 0), (252, .iload_n 3, 1, 0), (253, .iconst 1, 1, 0), (254, .iadd, 1, 0), (255, .iaload, 1, 0)]
theorem lx_r0_ok : lx_r0.all (rf_dec code) = true := by decide +kernel
def lx_r1 : List rf_E := [(256, .aload_n 0, 1, 0), (257, .iload_n 3, 1, 0), (258, .iconst 2, 1, 0), (259, .iadd, 1, 0), (260, .iaload, 1, 0), (261, .invokevirtual 17, 3, 0), (264, .if_icmp .eq 1226, 3, 0), (267, .iconst 0, 1, 0), (268, .ireturn, 1, 0), (269, .aload_n 1, 1, 0), (270, .aload_n 0, 1, 0), (271, .iload_n 3, 1, 0), (272, .iconst 1, 1, 0), (273, .iadd, 1, 0), (274, .iaload, 1, 0), (275, .aload_n 0, 1, 0), (276, .iload_n 3, 1, 0), (277, .iconst 2, 1, 0), (278, .iadd, 1, 0), (279, .iaload, 1, 0), (280, .aload_n 0, 1, 0), (281, .iload_n 3, 1, 0), (282, .iconst 3, 1, 0), (283, .iadd, 1, 0), (284, .iaload, 1, 0), (285, .invokevirtual 18, 3, 0), (288, .aload_n 2, 1, 0), (289, .aload_n 0, 1, 0), (290, .iload_n 3, 1, 0), (291, .iconst 1, 1, 0), (292, .iadd, 1, 0), (293, .iaload, 1, 0), (294, .aload_n 0, 1, 0), (295, .iload_n 3, 1, 0), (296, .iconst 2, 1, 0), (297, .iadd, 1, 0), (298, .iaload, 1, 0), (299, .aload_n 0, 1, 0), (300, .iload_n 3, 1, 0), (301, .iconst 3, 1, 0)]
theorem lx_r1_ok : lx_r1.all (rf_dec code) = true := by decide +kernel
def lx_r2 : List rf_E := [(302, .iadd, 1, 0), (303, .iaload, 1, 0), (304, .invokevirtual 22, 3, 0), (307, .if_icmp .eq 1183, 3, 0), (310, .iconst 0, 1, 0), (311, .ireturn, 1, 0), (312, .aload_n 1, 1, 0), (313, .aload_n 0, 1, 0), (314, .iload_n 3, 1, 0), (315, .iconst 1, 1, 0), (316, .iadd, 1, 0), (317, .iaload, 1, 0), (318, .aload_n 0, 1, 0), (319, .iload_n 3, 1, 0), (320, .iconst 2, 1, 0), (321, .iadd, 1, 0), (322, .iaload, 1, 0), (323, .invokevirtual 23, 3, 0), (326, .aload_n 2, 1, 0), (327, .aload_n 0, 1, 0), (328, .iload_n 3, 1, 0), (329, .iconst 1, 1, 0), (330, .iadd, 1, 0), (331, .iaload, 1, 0), (332, .aload_n 0, 1, 0), (333, .iload_n 3, 1, 0), (334, .iconst 2, 1, 0), (335, .iadd, 1, 0), (336, .iaload, 1, 0), (337, .invokevirtual 26, 3, 0), (340, .if_icmp .eq 1150, 3, 0), (343, .iconst 0, 1, 0), (344, .ireturn, 1, 0), (345, .aload_n 1, 1, 0), (346, .aload_n 0, 1, 0), (347, .iload_n 3, 1, 0), (348, .iconst 1, 1, 0), (349, .iadd, 1, 0), (350, .iaload, 1, 0), (351, .invokevirtual 27, 3, 0)]
theorem lx_r2_ok : lx_r2.all (rf_dec code) = true := by decide +kernel
def lx_r3 : List rf_E := [(354, .aload_n 2, 1, 0), (355, .aload_n 0, 1, 0), (356, .iload_n 3, 1, 0), (357, .iconst 1, 1, 0), (358, .iadd, 1, 0), (359, .iaload, 1, 0), (360, .invokevirtual 31, 3, 0), (363, .if_icmp .eq 1127, 3, 0), (366, .iconst 0, 1, 0), (367, .ireturn, 1, 0), (368, .aload_n 1, 1, 0), (369, .aload_n 0, 1, 0), (370, .iload_n 3, 1, 0), (371, .iconst 1, 1, 0), (372, .iadd, 1, 0), (373, .iaload, 1, 0), (374, .aload_n 0, 1, 0), (375, .iload_n 3, 1, 0), (376, .iconst 2, 1, 0), (377, .iadd, 1, 0), (378, .iaload, 1, 0), (379, .aload_n 0, 1, 0), (380, .iload_n 3, 1, 0), (381, .iconst 3, 1, 0), (382, .iadd, 1, 0), (383, .iaload, 1, 0), (384, .aload_n 0, 1, 0), (385, .iload_n 3, 1, 0), (386, .iconst 4, 1, 0), (387, .iadd, 1, 0), (388, .iaload, 1, 0), (389, .aload_n 0, 1, 0), (390, .iload_n 3, 1, 0), (391, .iconst 5, 1, 0), (392, .iadd, 1, 0), (393, .iaload, 1, 0), (394, .invokevirtual 32, 3, 0), (397, .aload_n 2, 1, 0), (398, .aload_n 0, 1, 0), (399, .iload_n 3, 1, 0)]
theorem lx_r3_ok : lx_r3.all (rf_dec code) = true := by decide +kernel
def lx_r4 : List rf_E := [(400, .iconst 1, 1, 0), (401, .iadd, 1, 0), (402, .iaload, 1, 0), (403, .aload_n 0, 1, 0), (404, .iload_n 3, 1, 0), (405, .iconst 2, 1, 0), (406, .iadd, 1, 0), (407, .iaload, 1, 0), (408, .aload_n 0, 1, 0), (409, .iload_n 3, 1, 0), (410, .iconst 3, 1, 0), (411, .iadd, 1, 0), (412, .iaload, 1, 0), (413, .aload_n 0, 1, 0), (414, .iload_n 3, 1, 0), (415, .iconst 4, 1, 0), (416, .iadd, 1, 0), (417, .iaload, 1, 0), (418, .aload_n 0, 1, 0), (419, .iload_n 3, 1, 0), (420, .iconst 5, 1, 0), (421, .iadd, 1, 0), (422, .iaload, 1, 0), (423, .invokevirtual 36, 3, 0), (426, .if_icmp .eq 1064, 3, 0), (429, .iconst 0, 1, 0), (430, .ireturn, 1, 0), (431, .aload_n 1, 1, 0), (432, .aload_n 0, 1, 0), (433, .iload_n 3, 1, 0), (434, .iconst 1, 1, 0), (435, .iadd, 1, 0), (436, .iaload, 1, 0), (437, .invokevirtual 37, 3, 0), (440, .aload_n 2, 1, 0), (441, .aload_n 0, 1, 0), (442, .iload_n 3, 1, 0), (443, .iconst 1, 1, 0), (444, .iadd, 1, 0), (445, .iaload, 1, 0)]
theorem lx_r4_ok : lx_r4.all (rf_dec code) = true := by decide +kernel
def lx_r5 : List rf_E := [(446, .invokevirtual 40, 3, 0), (449, .if_icmp .eq 1041, 3, 0), (452, .iconst 0, 1, 0), (453, .ireturn, 1, 0), (454, .aload_n 1, 1, 0), (455, .aload_n 0, 1, 0), (456, .iload_n 3, 1, 0), (457, .iconst 1, 1, 0), (458, .iadd, 1, 0), (459, .iaload, 1, 0), (460, .aload_n 0, 1, 0), (461, .iload_n 3, 1, 0), (462, .iconst 2, 1, 0), (463, .iadd, 1, 0), (464, .iaload, 1, 0), (465, .invokevirtual 41, 3, 0), (468, .aload_n 2, 1, 0), (469, .aload_n 0, 1, 0), (470, .iload_n 3, 1, 0), (471, .iconst 1, 1, 0), (472, .iadd, 1, 0), (473, .iaload, 1, 0), (474, .aload_n 0, 1, 0), (475, .iload_n 3, 1, 0), (476, .iconst 2, 1, 0), (477, .iadd, 1, 0), (478, .iaload, 1, 0), (479, .invokevirtual 44, 3, 0), (482, .if_icmp .eq 1008, 3, 0), (485, .iconst 0, 1, 0), (486, .ireturn, 1, 0), (487, .aload_n 1, 1, 0), (488, .aload_n 0, 1, 0), (489, .iload_n 3, 1, 0), (490, .iconst 1, 1, 0), (491, .iadd, 1, 0), (492, .iaload, 1, 0), (493, .aload_n 0, 1, 0), (494, .iload_n 3, 1, 0), (495, .iconst 2, 1, 0)]
theorem lx_r5_ok : lx_r5.all (rf_dec code) = true := by decide +kernel
def lx_r6 : List rf_E := [(496, .iadd, 1, 0), (497, .iaload, 1, 0), (498, .aload_n 0, 1, 0), (499, .iload_n 3, 1, 0), (500, .iconst 3, 1, 0), (501, .iadd, 1, 0), (502, .iaload, 1, 0), (503, .invokevirtual 45, 3, 0), (506, .aload_n 2, 1, 0), (507, .aload_n 0, 1, 0), (508, .iload_n 3, 1, 0), (509, .iconst 1, 1, 0), (510, .iadd, 1, 0), (511, .iaload, 1, 0), (512, .aload_n 0, 1, 0), (513, .iload_n 3, 1, 0), (514, .iconst 2, 1, 0), (515, .iadd, 1, 0), (516, .iaload, 1, 0), (517, .aload_n 0, 1, 0), (518, .iload_n 3, 1, 0), (519, .iconst 3, 1, 0), (520, .iadd, 1, 0), (521, .iaload, 1, 0), (522, .invokevirtual 48, 3, 0), (525, .if_icmp .eq 965, 3, 0), (528, .iconst 0, 1, 0), (529, .ireturn, 1, 0), (530, .aload_n 1, 1, 0), (531, .aload_n 0, 1, 0), (532, .iload_n 3, 1, 0), (533, .iconst 1, 1, 0), (534, .iadd, 1, 0), (535, .iaload, 1, 0), (536, .invokevirtual 49, 3, 0), (539, .aload_n 2, 1, 0), (540, .aload_n 0, 1, 0), (541, .iload_n 3, 1, 0), (542, .iconst 1, 1, 0), (543, .iadd, 1, 0)]
theorem lx_r6_ok : lx_r6.all (rf_dec code) = true := by decide +kernel
def lx_r7 : List rf_E := [(544, .iaload, 1, 0), (545, .invokevirtual 52, 3, 0), (548, .if_icmp .eq 942, 3, 0), (551, .iconst 0, 1, 0), (552, .ireturn, 1, 0), (553, .aload_n 1, 1, 0), (554, .aload_n 0, 1, 0), (555, .iload_n 3, 1, 0), (556, .iconst 1, 1, 0), (557, .iadd, 1, 0), (558, .iaload, 1, 0), (559, .invokevirtual 53, 3, 0), (562, .aload_n 2, 1, 0), (563, .aload_n 0, 1, 0), (564, .iload_n 3, 1, 0), (565, .iconst 1, 1, 0), (566, .iadd, 1, 0), (567, .iaload, 1, 0), (568, .invokevirtual 56, 3, 0), (571, .if_icmp .eq 919, 3, 0), (574, .iconst 0, 1, 0), (575, .ireturn, 1, 0), (576, .aload_n 1, 1, 0), (577, .aload_n 0, 1, 0), (578, .iload_n 3, 1, 0), (579, .iconst 1, 1, 0), (580, .iadd, 1, 0), (581, .iaload, 1, 0), (582, .aload_n 0, 1, 0), (583, .iload_n 3, 1, 0), (584, .iconst 2, 1, 0), (585, .iadd, 1, 0), (586, .iaload, 1, 0), (587, .invokevirtual 57, 3, 0), (590, .aload_n 2, 1, 0), (591, .aload_n 0, 1, 0), (592, .iload_n 3, 1, 0), (593, .iconst 1, 1, 0), (594, .iadd, 1, 0), (595, .iaload, 1, 0)]
theorem lx_r7_ok : lx_r7.all (rf_dec code) = true := by decide +kernel
def lx_r8 : List rf_E := [(596, .aload_n 0, 1, 0), (597, .iload_n 3, 1, 0), (598, .iconst 2, 1, 0), (599, .iadd, 1, 0), (600, .iaload, 1, 0), (601, .invokevirtual 60, 3, 0), (604, .if_icmp .eq 886, 3, 0), (607, .iconst 0, 1, 0), (608, .ireturn, 1, 0), (609, .aload_n 1, 1, 0), (610, .aload_n 0, 1, 0), (611, .iload_n 3, 1, 0), (612, .iconst 1, 1, 0), (613, .iadd, 1, 0), (614, .iaload, 1, 0), (615, .aload_n 0, 1, 0), (616, .iload_n 3, 1, 0), (617, .iconst 2, 1, 0), (618, .iadd, 1, 0), (619, .iaload, 1, 0), (620, .invokevirtual 61, 3, 0), (623, .aload_n 2, 1, 0), (624, .aload_n 0, 1, 0), (625, .iload_n 3, 1, 0), (626, .iconst 1, 1, 0), (627, .iadd, 1, 0), (628, .iaload, 1, 0), (629, .aload_n 0, 1, 0), (630, .iload_n 3, 1, 0), (631, .iconst 2, 1, 0), (632, .iadd, 1, 0), (633, .iaload, 1, 0), (634, .invokevirtual 64, 3, 0), (637, .if_icmp .eq 853, 3, 0), (640, .iconst 0, 1, 0), (641, .ireturn, 1, 0), (642, .aload_n 1, 1, 0), (643, .aload_n 0, 1, 0), (644, .iload_n 3, 1, 0), (645, .iconst 1, 1, 0)]
theorem lx_r8_ok : lx_r8.all (rf_dec code) = true := by decide +kernel
def lx_r9 : List rf_E := [(646, .iadd, 1, 0), (647, .iaload, 1, 0), (648, .aload_n 0, 1, 0), (649, .iload_n 3, 1, 0), (650, .iconst 2, 1, 0), (651, .iadd, 1, 0), (652, .iaload, 1, 0), (653, .invokevirtual 65, 3, 0), (656, .aload_n 2, 1, 0), (657, .aload_n 0, 1, 0), (658, .iload_n 3, 1, 0), (659, .iconst 1, 1, 0), (660, .iadd, 1, 0), (661, .iaload, 1, 0), (662, .aload_n 0, 1, 0), (663, .iload_n 3, 1, 0), (664, .iconst 2, 1, 0), (665, .iadd, 1, 0), (666, .iaload, 1, 0), (667, .invokevirtual 68, 3, 0), (670, .if_icmp .eq 820, 3, 0), (673, .iconst 0, 1, 0), (674, .ireturn, 1, 0), (675, .aload_n 1, 1, 0), (676, .aload_n 0, 1, 0), (677, .iload_n 3, 1, 0), (678, .iconst 1, 1, 0), (679, .iadd, 1, 0), (680, .iaload, 1, 0), (681, .aload_n 0, 1, 0), (682, .iload_n 3, 1, 0), (683, .iconst 2, 1, 0), (684, .iadd, 1, 0), (685, .iaload, 1, 0), (686, .invokevirtual 69, 3, 0), (689, .aload_n 2, 1, 0), (690, .aload_n 0, 1, 0), (691, .iload_n 3, 1, 0), (692, .iconst 1, 1, 0), (693, .iadd, 1, 0)]
theorem lx_r9_ok : lx_r9.all (rf_dec code) = true := by decide +kernel
def lx_r10 : List rf_E := [(694, .iaload, 1, 0), (695, .aload_n 0, 1, 0), (696, .iload_n 3, 1, 0), (697, .iconst 2, 1, 0), (698, .iadd, 1, 0), (699, .iaload, 1, 0), (700, .invokevirtual 72, 3, 0), (703, .if_icmp .eq 787, 3, 0), (706, .iconst 0, 1, 0), (707, .ireturn, 1, 0), (708, .aload_n 1, 1, 0), (709, .invokevirtual 73, 3, 0), (712, .aload_n 2, 1, 0), (713, .invokevirtual 77, 3, 0), (716, .if_icmp .eq 774, 3, 0), (719, .iconst 0, 1, 0), (720, .ireturn, 1, 0), (721, .aload_n 1, 1, 0), (722, .invokevirtual 78, 3, 0), (725, .aload_n 2, 1, 0), (726, .invokevirtual 81, 3, 0), (729, .if_icmp .eq 761, 3, 0), (732, .iconst 0, 1, 0), (733, .ireturn, 1, 0), (734, .aload_n 1, 1, 0), (735, .aload_n 0, 1, 0), (736, .iload_n 3, 1, 0), (737, .iconst 1, 1, 0), (738, .iadd, 1, 0), (739, .iaload, 1, 0), (740, .invokevirtual 82, 3, 0), (743, .aload_n 2, 1, 0), (744, .aload_n 0, 1, 0), (745, .iload_n 3, 1, 0), (746, .iconst 1, 1, 0), (747, .iadd, 1, 0), (748, .iaload, 1, 0), (749, .invokevirtual 85, 3, 0), (752, .if_icmp .eq 738, 3, 0), (755, .iconst 0, 1, 0)]
theorem lx_r10_ok : lx_r10.all (rf_dec code) = true := by decide +kernel
def lx_r11 : List rf_E := [(756, .ireturn, 1, 0), (757, .aload_n 1, 1, 0), (758, .aload_n 0, 1, 0), (759, .iload_n 3, 1, 0), (760, .iconst 1, 1, 0), (761, .iadd, 1, 0), (762, .iaload, 1, 0), (763, .aload_n 0, 1, 0), (764, .iload_n 3, 1, 0), (765, .iconst 2, 1, 0), (766, .iadd, 1, 0), (767, .iaload, 1, 0), (768, .invokevirtual 86, 3, 0), (771, .aload_n 2, 1, 0), (772, .aload_n 0, 1, 0), (773, .iload_n 3, 1, 0), (774, .iconst 1, 1, 0), (775, .iadd, 1, 0), (776, .iaload, 1, 0), (777, .aload_n 0, 1, 0), (778, .iload_n 3, 1, 0), (779, .iconst 2, 1, 0), (780, .iadd, 1, 0), (781, .iaload, 1, 0), (782, .invokevirtual 89, 3, 0), (785, .if_icmp .eq 705, 3, 0), (788, .iconst 0, 1, 0), (789, .ireturn, 1, 0), (790, .aload_n 1, 1, 0), (791, .aload_n 0, 1, 0), (792, .iload_n 3, 1, 0), (793, .iconst 1, 1, 0), (794, .iadd, 1, 0), (795, .iaload, 1, 0), (796, .aload_n 0, 1, 0), (797, .iload_n 3, 1, 0), (798, .iconst 2, 1, 0), (799, .iadd, 1, 0), (800, .iaload, 1, 0), (801, .invokevirtual 90, 3, 0)]
theorem lx_r11_ok : lx_r11.all (rf_dec code) = true := by decide +kernel
def lx_r12 : List rf_E := [(804, .aload_n 2, 1, 0), (805, .aload_n 0, 1, 0), (806, .iload_n 3, 1, 0), (807, .iconst 1, 1, 0), (808, .iadd, 1, 0), (809, .iaload, 1, 0), (810, .aload_n 0, 1, 0), (811, .iload_n 3, 1, 0), (812, .iconst 2, 1, 0), (813, .iadd, 1, 0), (814, .iaload, 1, 0), (815, .invokevirtual 93, 3, 0), (818, .if_icmp .eq 672, 3, 0), (821, .iconst 0, 1, 0), (822, .ireturn, 1, 0), (823, .aload_n 1, 1, 0), (824, .aload_n 0, 1, 0), (825, .iload_n 3, 1, 0), (826, .iconst 1, 1, 0), (827, .iadd, 1, 0), (828, .iaload, 1, 0), (829, .invokevirtual 94, 3, 0), (832, .aload_n 2, 1, 0), (833, .aload_n 0, 1, 0), (834, .iload_n 3, 1, 0), (835, .iconst 1, 1, 0), (836, .iadd, 1, 0), (837, .iaload, 1, 0), (838, .invokevirtual 97, 3, 0), (841, .if_icmp .eq 649, 3, 0), (844, .iconst 0, 1, 0), (845, .ireturn, 1, 0), (846, .aload_n 1, 1, 0), (847, .aload_n 0, 1, 0), (848, .iload_n 3, 1, 0), (849, .iconst 1, 1, 0), (850, .iadd, 1, 0), (851, .iaload, 1, 0), (852, .invokevirtual 98, 3, 0), (855, .aload_n 2, 1, 0)]
theorem lx_r12_ok : lx_r12.all (rf_dec code) = true := by decide +kernel
def lx_r13 : List rf_E := [(856, .aload_n 0, 1, 0), (857, .iload_n 3, 1, 0), (858, .iconst 1, 1, 0), (859, .iadd, 1, 0), (860, .iaload, 1, 0), (861, .invokevirtual 101, 3, 0), (864, .if_icmp .eq 626, 3, 0), (867, .iconst 0, 1, 0), (868, .ireturn, 1, 0), (869, .aload_n 1, 1, 0), (870, .aload_n 0, 1, 0), (871, .iload_n 3, 1, 0), (872, .iconst 1, 1, 0), (873, .iadd, 1, 0), (874, .iaload, 1, 0), (875, .invokevirtual 102, 3, 0), (878, .aload_n 2, 1, 0), (879, .aload_n 0, 1, 0), (880, .iload_n 3, 1, 0), (881, .iconst 1, 1, 0), (882, .iadd, 1, 0), (883, .iaload, 1, 0), (884, .invokevirtual 105, 3, 0), (887, .if_icmp .eq 603, 3, 0), (890, .iconst 0, 1, 0), (891, .ireturn, 1, 0), (892, .aload_n 1, 1, 0), (893, .aload_n 0, 1, 0), (894, .iload_n 3, 1, 0), (895, .iconst 1, 1, 0), (896, .iadd, 1, 0), (897, .iaload, 1, 0), (898, .invokevirtual 106, 3, 0), (901, .aload_n 2, 1, 0), (902, .aload_n 0, 1, 0), (903, .iload_n 3, 1, 0), (904, .iconst 1, 1, 0), (905, .iadd, 1, 0), (906, .iaload, 1, 0), (907, .invokevirtual 109, 3, 0)]
theorem lx_r13_ok : lx_r13.all (rf_dec code) = true := by decide +kernel
def lx_r14 : List rf_E := [(910, .if_icmp .eq 580, 3, 0), (913, .iconst 0, 1, 0), (914, .ireturn, 1, 0), (915, .aload_n 1, 1, 0), (916, .aload_n 0, 1, 0), (917, .iload_n 3, 1, 0), (918, .iconst 1, 1, 0), (919, .iadd, 1, 0), (920, .iaload, 1, 0), (921, .aload_n 0, 1, 0), (922, .iload_n 3, 1, 0), (923, .iconst 2, 1, 0), (924, .iadd, 1, 0), (925, .iaload, 1, 0), (926, .invokevirtual 110, 3, 0), (929, .aload_n 2, 1, 0), (930, .aload_n 0, 1, 0), (931, .iload_n 3, 1, 0), (932, .iconst 1, 1, 0), (933, .iadd, 1, 0), (934, .iaload, 1, 0), (935, .aload_n 0, 1, 0), (936, .iload_n 3, 1, 0), (937, .iconst 2, 1, 0), (938, .iadd, 1, 0), (939, .iaload, 1, 0), (940, .invokevirtual 113, 3, 0), (943, .if_icmp .eq 547, 3, 0), (946, .iconst 0, 1, 0), (947, .ireturn, 1, 0), (948, .aload_n 1, 1, 0), (949, .invokevirtual 114, 3, 0), (952, .aload_n 2, 1, 0), (953, .invokevirtual 117, 3, 0), (956, .if_icmp .eq 534, 3, 0), (959, .iconst 0, 1, 0), (960, .ireturn, 1, 0), (961, .aload_n 1, 1, 0), (962, .aload_n 0, 1, 0), (963, .iload_n 3, 1, 0)]
theorem lx_r14_ok : lx_r14.all (rf_dec code) = true := by decide +kernel
def lx_r15 : List rf_E := [(964, .iconst 1, 1, 0), (965, .iadd, 1, 0), (966, .iaload, 1, 0), (967, .aload_n 0, 1, 0), (968, .iload_n 3, 1, 0), (969, .iconst 2, 1, 0), (970, .iadd, 1, 0), (971, .iaload, 1, 0), (972, .invokevirtual 118, 3, 0), (975, .aload_n 2, 1, 0), (976, .aload_n 0, 1, 0), (977, .iload_n 3, 1, 0), (978, .iconst 1, 1, 0), (979, .iadd, 1, 0), (980, .iaload, 1, 0), (981, .aload_n 0, 1, 0), (982, .iload_n 3, 1, 0), (983, .iconst 2, 1, 0), (984, .iadd, 1, 0), (985, .iaload, 1, 0), (986, .invokevirtual 121, 3, 0), (989, .if_icmp .eq 501, 3, 0), (992, .iconst 0, 1, 0), (993, .ireturn, 1, 0), (994, .aload_n 1, 1, 0), (995, .aload_n 0, 1, 0), (996, .iload_n 3, 1, 0), (997, .iconst 1, 1, 0), (998, .iadd, 1, 0), (999, .iaload, 1, 0), (1000, .invokevirtual 122, 3, 0), (1003, .aload_n 2, 1, 0), (1004, .aload_n 0, 1, 0), (1005, .iload_n 3, 1, 0), (1006, .iconst 1, 1, 0), (1007, .iadd, 1, 0), (1008, .iaload, 1, 0), (1009, .invokevirtual 125, 3, 0), (1012, .if_icmp .eq 478, 3, 0), (1015, .iconst 0, 1, 0)]
theorem lx_r15_ok : lx_r15.all (rf_dec code) = true := by decide +kernel
def lx_r16 : List rf_E := [(1016, .ireturn, 1, 0), (1017, .aload_n 1, 1, 0), (1018, .aload_n 0, 1, 0), (1019, .iload_n 3, 1, 0), (1020, .iconst 1, 1, 0), (1021, .iadd, 1, 0), (1022, .iaload, 1, 0), (1023, .invokevirtual 126, 3, 0), (1026, .aload_n 2, 1, 0), (1027, .aload_n 0, 1, 0), (1028, .iload_n 3, 1, 0), (1029, .iconst 1, 1, 0), (1030, .iadd, 1, 0), (1031, .iaload, 1, 0), (1032, .invokevirtual 129, 3, 0), (1035, .if_icmp .eq 455, 3, 0), (1038, .iconst 0, 1, 0), (1039, .ireturn, 1, 0), (1040, .aload_n 1, 1, 0), (1041, .aload_n 0, 1, 0), (1042, .iload_n 3, 1, 0), (1043, .iconst 1, 1, 0), (1044, .iadd, 1, 0), (1045, .iaload, 1, 0), (1046, .invokevirtual 130, 3, 0), (1049, .aload_n 2, 1, 0), (1050, .aload_n 0, 1, 0), (1051, .iload_n 3, 1, 0), (1052, .iconst 1, 1, 0), (1053, .iadd, 1, 0), (1054, .iaload, 1, 0), (1055, .invokevirtual 133, 3, 0), (1058, .if_icmp .eq 432, 3, 0), (1061, .iconst 0, 1, 0), (1062, .ireturn, 1, 0), (1063, .aload_n 1, 1, 0), (1064, .invokevirtual 134, 3, 0), (1067, .aload_n 2, 1, 0), (1068, .invokevirtual 137, 3, 0), (1071, .if_icmp .eq 419, 3, 0)]
theorem lx_r16_ok : lx_r16.all (rf_dec code) = true := by decide +kernel
def lx_r17 : List rf_E := [(1074, .iconst 0, 1, 0), (1075, .ireturn, 1, 0), (1076, .aload_n 1, 1, 0), (1077, .aload_n 0, 1, 0), (1078, .iload_n 3, 1, 0), (1079, .iconst 1, 1, 0), (1080, .iadd, 1, 0), (1081, .iaload, 1, 0), (1082, .invokevirtual 138, 3, 0), (1085, .aload_n 2, 1, 0), (1086, .aload_n 0, 1, 0), (1087, .iload_n 3, 1, 0), (1088, .iconst 1, 1, 0), (1089, .iadd, 1, 0), (1090, .iaload, 1, 0), (1091, .invokevirtual 141, 3, 0), (1094, .if_icmp .eq 396, 3, 0), (1097, .iconst 0, 1, 0), (1098, .ireturn, 1, 0), (1099, .aload_n 1, 1, 0), (1100, .aload_n 0, 1, 0), (1101, .iload_n 3, 1, 0), (1102, .iconst 1, 1, 0), (1103, .iadd, 1, 0), (1104, .iaload, 1, 0), (1105, .invokevirtual 142, 3, 0), (1108, .aload_n 2, 1, 0), (1109, .aload_n 0, 1, 0), (1110, .iload_n 3, 1, 0), (1111, .iconst 1, 1, 0), (1112, .iadd, 1, 0), (1113, .iaload, 1, 0), (1114, .invokevirtual 145, 3, 0), (1117, .if_icmp .eq 373, 3, 0), (1120, .iconst 0, 1, 0), (1121, .ireturn, 1, 0), (1122, .aload_n 1, 1, 0), (1123, .aload_n 0, 1, 0), (1124, .iload_n 3, 1, 0), (1125, .iconst 1, 1, 0)]
theorem lx_r17_ok : lx_r17.all (rf_dec code) = true := by decide +kernel
def lx_r18 : List rf_E := [(1126, .iadd, 1, 0), (1127, .iaload, 1, 0), (1128, .invokevirtual 146, 3, 0), (1131, .aload_n 2, 1, 0), (1132, .aload_n 0, 1, 0), (1133, .iload_n 3, 1, 0), (1134, .iconst 1, 1, 0), (1135, .iadd, 1, 0), (1136, .iaload, 1, 0), (1137, .invokevirtual 149, 3, 0), (1140, .if_icmp .eq 350, 3, 0), (1143, .iconst 0, 1, 0), (1144, .ireturn, 1, 0), (1145, .aload_n 1, 1, 0), (1146, .aload_n 0, 1, 0), (1147, .iload_n 3, 1, 0), (1148, .iconst 1, 1, 0), (1149, .iadd, 1, 0), (1150, .iaload, 1, 0), (1151, .aload_n 0, 1, 0), (1152, .iload_n 3, 1, 0), (1153, .iconst 2, 1, 0), (1154, .iadd, 1, 0), (1155, .iaload, 1, 0), (1156, .invokevirtual 150, 3, 0), (1159, .aload_n 2, 1, 0), (1160, .aload_n 0, 1, 0), (1161, .iload_n 3, 1, 0), (1162, .iconst 1, 1, 0), (1163, .iadd, 1, 0), (1164, .iaload, 1, 0), (1165, .aload_n 0, 1, 0), (1166, .iload_n 3, 1, 0), (1167, .iconst 2, 1, 0), (1168, .iadd, 1, 0), (1169, .iaload, 1, 0), (1170, .invokevirtual 153, 3, 0), (1173, .if_icmp .eq 317, 3, 0), (1176, .iconst 0, 1, 0), (1177, .ireturn, 1, 0)]
theorem lx_r18_ok : lx_r18.all (rf_dec code) = true := by decide +kernel
def lx_r19 : List rf_E := [(1178, .aload_n 1, 1, 0), (1179, .aload_n 0, 1, 0), (1180, .iload_n 3, 1, 0), (1181, .iconst 1, 1, 0), (1182, .iadd, 1, 0), (1183, .iaload, 1, 0), (1184, .aload_n 0, 1, 0), (1185, .iload_n 3, 1, 0), (1186, .iconst 2, 1, 0), (1187, .iadd, 1, 0), (1188, .iaload, 1, 0), (1189, .invokevirtual 154, 3, 0), (1192, .aload_n 2, 1, 0), (1193, .aload_n 0, 1, 0), (1194, .iload_n 3, 1, 0), (1195, .iconst 1, 1, 0), (1196, .iadd, 1, 0), (1197, .iaload, 1, 0), (1198, .aload_n 0, 1, 0), (1199, .iload_n 3, 1, 0), (1200, .iconst 2, 1, 0), (1201, .iadd, 1, 0), (1202, .iaload, 1, 0), (1203, .invokevirtual 157, 3, 0), (1206, .if_icmp .eq 284, 3, 0), (1209, .iconst 0, 1, 0), (1210, .ireturn, 1, 0), (1211, .aload_n 1, 1, 0), (1212, .aload_n 0, 1, 0), (1213, .iload_n 3, 1, 0), (1214, .iconst 1, 1, 0), (1215, .iadd, 1, 0), (1216, .iaload, 1, 0), (1217, .invokevirtual 158, 3, 0), (1220, .aload_n 2, 1, 0), (1221, .aload_n 0, 1, 0), (1222, .iload_n 3, 1, 0), (1223, .iconst 1, 1, 0), (1224, .iadd, 1, 0), (1225, .iaload, 1, 0)]
theorem lx_r19_ok : lx_r19.all (rf_dec code) = true := by decide +kernel
def lx_r20 : List rf_E := [(1226, .invokevirtual 161, 3, 0), (1229, .if_icmp .eq 261, 3, 0), (1232, .iconst 0, 1, 0), (1233, .ireturn, 1, 0), (1234, .aload_n 1, 1, 0), (1235, .aload_n 0, 1, 0), (1236, .iload_n 3, 1, 0), (1237, .iconst 1, 1, 0), (1238, .iadd, 1, 0), (1239, .iaload, 1, 0), (1240, .aload_n 0, 1, 0), (1241, .iload_n 3, 1, 0), (1242, .iconst 2, 1, 0), (1243, .iadd, 1, 0), (1244, .iaload, 1, 0), (1245, .aload_n 0, 1, 0), (1246, .iload_n 3, 1, 0), (1247, .iconst 3, 1, 0), (1248, .iadd, 1, 0), (1249, .iaload, 1, 0), (1250, .invokevirtual 162, 3, 0), (1253, .aload_n 2, 1, 0), (1254, .aload_n 0, 1, 0), (1255, .iload_n 3, 1, 0), (1256, .iconst 1, 1, 0), (1257, .iadd, 1, 0), (1258, .iaload, 1, 0), (1259, .aload_n 0, 1, 0), (1260, .iload_n 3, 1, 0), (1261, .iconst 2, 1, 0), (1262, .iadd, 1, 0), (1263, .iaload, 1, 0), (1264, .aload_n 0, 1, 0), (1265, .iload_n 3, 1, 0), (1266, .iconst 3, 1, 0), (1267, .iadd, 1, 0), (1268, .iaload, 1, 0), (1269, .invokevirtual 165, 3, 0), (1272, .if_icmp .eq 218, 3, 0), (1275, .iconst 0, 1, 0)]
theorem lx_r20_ok : lx_r20.all (rf_dec code) = true := by decide +kernel
def lx_r21 : List rf_E := [(1276, .ireturn, 1, 0), (1277, .aload_n 1, 1, 0), (1278, .aload_n 0, 1, 0), (1279, .iload_n 3, 1, 0), (1280, .iconst 1, 1, 0), (1281, .iadd, 1, 0), (1282, .iaload, 1, 0), (1283, .aload_n 0, 1, 0), (1284, .iload_n 3, 1, 0), (1285, .iconst 2, 1, 0), (1286, .iadd, 1, 0), (1287, .iaload, 1, 0), (1288, .invokevirtual 166, 3, 0), (1291, .aload_n 2, 1, 0), (1292, .aload_n 0, 1, 0), (1293, .iload_n 3, 1, 0), (1294, .iconst 1, 1, 0), (1295, .iadd, 1, 0), (1296, .iaload, 1, 0), (1297, .aload_n 0, 1, 0), (1298, .iload_n 3, 1, 0), (1299, .iconst 2, 1, 0), (1300, .iadd, 1, 0), (1301, .iaload, 1, 0), (1302, .invokevirtual 169, 3, 0), (1305, .if_icmp .eq 185, 3, 0), (1308, .iconst 0, 1, 0), (1309, .ireturn, 1, 0), (1310, .aload_n 1, 1, 0), (1311, .aload_n 0, 1, 0), (1312, .iload_n 3, 1, 0), (1313, .iconst 1, 1, 0), (1314, .iadd, 1, 0), (1315, .iaload, 1, 0), (1316, .aload_n 0, 1, 0), (1317, .iload_n 3, 1, 0), (1318, .iconst 2, 1, 0), (1319, .iadd, 1, 0), (1320, .iaload, 1, 0), (1321, .invokevirtual 170, 3, 0)]
theorem lx_r21_ok : lx_r21.all (rf_dec code) = true := by decide +kernel
def lx_r22 : List rf_E := [(1324, .aload_n 2, 1, 0), (1325, .aload_n 0, 1, 0), (1326, .iload_n 3, 1, 0), (1327, .iconst 1, 1, 0), (1328, .iadd, 1, 0), (1329, .iaload, 1, 0), (1330, .aload_n 0, 1, 0), (1331, .iload_n 3, 1, 0), (1332, .iconst 2, 1, 0), (1333, .iadd, 1, 0), (1334, .iaload, 1, 0), (1335, .invokevirtual 173, 3, 0), (1338, .if_icmp .eq 152, 3, 0), (1341, .iconst 0, 1, 0), (1342, .ireturn, 1, 0), (1343, .aload_n 1, 1, 0), (1344, .aload_n 0, 1, 0), (1345, .iload_n 3, 1, 0), (1346, .iconst 1, 1, 0), (1347, .iadd, 1, 0), (1348, .iaload, 1, 0), (1349, .aload_n 0, 1, 0), (1350, .iload_n 3, 1, 0), (1351, .iconst 2, 1, 0), (1352, .iadd, 1, 0), (1353, .iaload, 1, 0), (1354, .invokevirtual 174, 3, 0), (1357, .aload_n 2, 1, 0), (1358, .aload_n 0, 1, 0), (1359, .iload_n 3, 1, 0), (1360, .iconst 1, 1, 0), (1361, .iadd, 1, 0), (1362, .iaload, 1, 0), (1363, .aload_n 0, 1, 0), (1364, .iload_n 3, 1, 0), (1365, .iconst 2, 1, 0), (1366, .iadd, 1, 0), (1367, .iaload, 1, 0), (1368, .invokevirtual 177, 3, 0), (1371, .if_icmp .eq 119, 3, 0)]
theorem lx_r22_ok : lx_r22.all (rf_dec code) = true := by decide +kernel
def lx_r23 : List rf_E := [(1374, .iconst 0, 1, 0), (1375, .ireturn, 1, 0), (1376, .aload_n 1, 1, 0), (1377, .invokevirtual 178, 3, 0), (1380, .aload_n 2, 1, 0), (1381, .invokevirtual 181, 3, 0), (1384, .if_icmp .eq 106, 3, 0), (1387, .iconst 0, 1, 0), (1388, .ireturn, 1, 0), (1389, .aload_n 1, 1, 0), (1390, .invokevirtual 182, 3, 0), (1393, .aload_n 2, 1, 0), (1394, .invokevirtual 186, 3, 0), (1397, .lcmp, 1, 0), (1398, .ifCond .eq 92, 3, 0), (1401, .iconst 0, 1, 0), (1402, .ireturn, 1, 0), (1403, .aload_n 1, 1, 0), (1404, .invokevirtual 187, 3, 0), (1407, .aload_n 2, 1, 0), (1408, .invokevirtual 190, 3, 0), (1411, .lcmp, 1, 0), (1412, .ifCond .eq 78, 3, 0), (1415, .iconst 0, 1, 0), (1416, .ireturn, 1, 0), (1417, .aload_n 1, 1, 0), (1418, .aload_n 0, 1, 0), (1419, .iload_n 3, 1, 0), (1420, .iconst 1, 1, 0), (1421, .iadd, 1, 0), (1422, .iaload, 1, 0), (1423, .invokevirtual 191, 3, 0), (1426, .aload_n 2, 1, 0), (1427, .aload_n 0, 1, 0), (1428, .iload_n 3, 1, 0), (1429, .iconst 1, 1, 0), (1430, .iadd, 1, 0), (1431, .iaload, 1, 0), (1432, .invokevirtual 194, 3, 0), (1435, .if_icmp .eq 55, 3, 0)]
theorem lx_r23_ok : lx_r23.all (rf_dec code) = true := by decide +kernel
def lx_r24 : List rf_E := [(1438, .iconst 0, 1, 0), (1439, .ireturn, 1, 0), (1440, .aload_n 1, 1, 0), (1441, .invokevirtual 195, 3, 0), (1444, .aload_n 2, 1, 0), (1445, .invokevirtual 198, 3, 0), (1448, .if_icmp .eq 42, 3, 0), (1451, .iconst 0, 1, 0), (1452, .ireturn, 1, 0), (1453, .aload_n 1, 1, 0), (1454, .aload_n 0, 1, 0), (1455, .iload_n 3, 1, 0), (1456, .iconst 1, 1, 0), (1457, .iadd, 1, 0), (1458, .iaload, 1, 0), (1459, .invokevirtual 199, 3, 0), (1462, .aload_n 2, 1, 0), (1463, .aload_n 0, 1, 0), (1464, .iload_n 3, 1, 0), (1465, .iconst 1, 1, 0), (1466, .iadd, 1, 0), (1467, .iaload, 1, 0), (1468, .invokevirtual 202, 3, 0), (1471, .if_icmp .eq 19, 3, 0), (1474, .iconst 0, 1, 0), (1475, .ireturn, 1, 0), (1476, .aload_n 1, 1, 0), (1477, .invokevirtual 203, 3, 0), (1480, .aload_n 2, 1, 0), (1481, .invokevirtual 206, 3, 0), (1484, .lcmp, 1, 0), (1485, .ifCond .eq 5, 3, 0), (1488, .iconst 0, 1, 0), (1489, .ireturn, 1, 0), (1490, .iinc 3 6, 3, 0), (1493, .goto (-1475), 3, 0), (1496, .iconst 1, 1, 0), (1497, .ireturn, 1, 0)]
theorem lx_r24_ok : lx_r24.all (rf_dec code) = true := by decide +kernel
def opC (k : Nat) (a : Nat → Int32) (σ : rf_S) : Option (Value × rf_S) := match k with
  | 0 => (f_X9_row (a 1) (a 2) σ).map (fun q => (Value.int q.1, q.2))
  | 1 => (f_X9_lay (a 1) (a 2) (a 3) σ).map (fun q => (Value.int q.1, q.2))
  | 2 => (f_X9_at (a 1) (a 2) σ).map (fun q => (Value.int q.1, q.2))
  | 3 => (f_X9_tear (a 1) σ).map (fun q => (Value.int q.1, q.2))
  | 4 => (f_X9_copy (a 1) (a 2) (a 3) (a 4) (a 5) σ).map (fun q => (Value.int q.1, q.2))
  | 5 => (f_X9_mean (a 1) σ).map (fun q => (Value.int q.1, q.2))
  | 6 => (f_X9_text (a 1) (a 2) σ).map (fun q => (Value.int q.1, q.2))
  | 7 => (f_X9_put (a 1) (a 2) (a 3) σ).map (fun q => (Value.int q.1, q.2))
  | 8 => (f_X9_fault (a 1) σ).map (fun q => (Value.int q.1, q.2))
  | 9 => (f_X9_town (a 1) σ).map (fun q => (Value.int q.1, q.2))
  | 10 => (f_X9_member (a 1) (a 2) σ).map (fun q => (Value.int q.1, q.2))
  | 11 => (f_X9_room (a 1) (a 2) σ).map (fun q => (Value.int q, σ))
  | 12 => (f_X9_mark (a 1) (a 2) σ).map (fun q => (Value.int q.1, q.2))
  | 13 => (f_X9_walk (a 1) (a 2) σ).map (fun q => (Value.int q.1, q.2))
  | 14 => (f_X9_hour σ).map (fun q => (Value.int q.1, q.2))
  | 15 => (f_X9_soup σ).map (fun q => (Value.int q.1, q.2))
  | 16 => (f_X9_cold (a 1) σ).map (fun q => (Value.int q.1, q.2))
  | 17 => (f_X9_love (a 1) (a 2) σ).map (fun q => (Value.int q.1, q.2))
  | 18 => (f_X9_fire (a 1) (a 2) σ).map (fun q => (Value.int q.1, q.2))
  | 19 => (f_X9_undo (a 1) σ).map (fun q => (Value.int q.1, q.2))
  | 20 => (f_X9_keep (a 1) σ).map (fun q => (Value.int q.1, q.2))
  | 21 => (f_X9_on (a 1) σ).map (fun q => (Value.int q.1, q.2))
  | 22 => (f_X9_span (a 1) σ).map (fun q => (Value.int q.1, q.2))
  | 23 => (f_X9_spanBy (a 1) (a 2) σ).map (fun q => (Value.int q, σ))
  | 24 => (f_X9_known σ).map (fun q => (Value.int q, σ))
  | 25 => (f_X9_box (a 1) (a 2) σ).map (fun q => (Value.int q.1, q.2))
  | 26 => (f_X9_send (a 1) σ).map (fun q => (Value.int q.1, q.2))
  | 27 => (f_X9_most (a 1) σ).map (fun q => (Value.int q.1, q.2))
  | 28 => (f_X9_parts (a 1) σ).map (fun q => (Value.int q.1, q.2))
  | 29 => (f_X9_fewest σ).map (fun q => (Value.int q.1, q.2))
  | 30 => (f_X9_alike (a 1) σ).map (fun q => (Value.int q, σ))
  | 31 => (f_X9_fits (a 1) σ).map (fun q => (Value.int q.1, q.2))
  | 32 => (f_X9_tickled (a 1) σ).map (fun q => (Value.int q.1, q.2))
  | 33 => (f_X9_shifts (a 1) (a 2) σ).map (fun q => (Value.int q.1, q.2))
  | 34 => (f_X9_kinds (a 1) (a 2) σ).map (fun q => (Value.int q.1, q.2))
  | 35 => (f_X9_spreads (a 1) σ).map (fun q => (Value.int q.1, q.2))
  | 36 => (f_X9_soups (a 1) (a 2) (a 3) σ).map (fun q => (Value.int q.1, q.2))
  | 37 => (f_X9_odds (a 1) (a 2) σ).map (fun q => (Value.int q.1, q.2))
  | 38 => (f_X9_mid (a 1) (a 2) σ).map (fun q => (Value.int q.1, q.2))
  | 39 => (f_X9_lots (a 1) (a 2) σ).map (fun q => (Value.int q.1, q.2))
  | 40 => (f_X9_asked σ).map (fun q => (Value.int q, σ))
  | 41 => (f_X9_upper σ).map (fun q => (Value.long q, σ))
  | 42 => (f_X9_lower σ).map (fun q => (Value.long q, σ))
  | 43 => (f_X9_count (a 1) σ).map (fun q => (Value.int q, σ))
  | 44 => (f_X9_finding σ).map (fun q => (Value.int q, σ))
  | 45 => (f_X9_findings (a 1) σ).map (fun q => (Value.int q, σ))
  | 46 => (f_X9_digest σ).map (fun q => (Value.long q, σ))
  | _ => none
def opM (k : Nat) (a : Nat → Int32) (τ : rf_S) : Option (Value × rf_S) := match k with
  | 0 => (f_X10_row (a 1) (a 2) τ).map (fun q => (Value.int q.1, q.2))
  | 1 => (f_X10_lay (a 1) (a 2) (a 3) τ).map (fun q => (Value.int q.1, q.2))
  | 2 => (f_X10_at (a 1) (a 2) τ).map (fun q => (Value.int q.1, q.2))
  | 3 => (f_X10_tear (a 1) τ).map (fun q => (Value.int q.1, q.2))
  | 4 => (f_X10_copy (a 1) (a 2) (a 3) (a 4) (a 5) τ).map (fun q => (Value.int q.1, q.2))
  | 5 => (f_X10_mean (a 1) τ).map (fun q => (Value.int q.1, q.2))
  | 6 => (f_X10_text (a 1) (a 2) τ).map (fun q => (Value.int q.1, q.2))
  | 7 => (f_X10_put (a 1) (a 2) (a 3) τ).map (fun q => (Value.int q.1, q.2))
  | 8 => (f_X10_fault (a 1) τ).map (fun q => (Value.int q.1, q.2))
  | 9 => (f_X10_town (a 1) τ).map (fun q => (Value.int q.1, q.2))
  | 10 => (f_X10_member (a 1) (a 2) τ).map (fun q => (Value.int q.1, q.2))
  | 11 => (f_X10_room (a 1) (a 2) τ).map (fun q => (Value.int q, τ))
  | 12 => (f_X10_mark (a 1) (a 2) τ).map (fun q => (Value.int q.1, q.2))
  | 13 => (f_X10_walk (a 1) (a 2) τ).map (fun q => (Value.int q.1, q.2))
  | 14 => (f_X10_hour τ).map (fun q => (Value.int q.1, q.2))
  | 15 => (f_X10_soup τ).map (fun q => (Value.int q.1, q.2))
  | 16 => (f_X10_cold (a 1) τ).map (fun q => (Value.int q.1, q.2))
  | 17 => (f_X10_love (a 1) (a 2) τ).map (fun q => (Value.int q.1, q.2))
  | 18 => (f_X10_fire (a 1) (a 2) τ).map (fun q => (Value.int q.1, q.2))
  | 19 => (f_X10_undo (a 1) τ).map (fun q => (Value.int q.1, q.2))
  | 20 => (f_X10_keep (a 1) τ).map (fun q => (Value.int q.1, q.2))
  | 21 => (f_X10_on (a 1) τ).map (fun q => (Value.int q.1, q.2))
  | 22 => (f_X10_span (a 1) τ).map (fun q => (Value.int q.1, q.2))
  | 23 => (f_X10_spanBy (a 1) (a 2) τ).map (fun q => (Value.int q, τ))
  | 24 => (f_X10_known τ).map (fun q => (Value.int q, τ))
  | 25 => (f_X10_box (a 1) (a 2) τ).map (fun q => (Value.int q.1, q.2))
  | 26 => (f_X10_send (a 1) τ).map (fun q => (Value.int q.1, q.2))
  | 27 => (f_X10_most (a 1) τ).map (fun q => (Value.int q.1, q.2))
  | 28 => (f_X10_parts (a 1) τ).map (fun q => (Value.int q.1, q.2))
  | 29 => (f_X10_fewest τ).map (fun q => (Value.int q.1, q.2))
  | 30 => (f_X10_alike (a 1) τ).map (fun q => (Value.int q, τ))
  | 31 => (f_X10_fits (a 1) τ).map (fun q => (Value.int q.1, q.2))
  | 32 => (f_X10_tickled (a 1) τ).map (fun q => (Value.int q.1, q.2))
  | 33 => (f_X10_shifts (a 1) (a 2) τ).map (fun q => (Value.int q.1, q.2))
  | 34 => (f_X10_kinds (a 1) (a 2) τ).map (fun q => (Value.int q.1, q.2))
  | 35 => (f_X10_spreads (a 1) τ).map (fun q => (Value.int q.1, q.2))
  | 36 => (f_X10_soups (a 1) (a 2) (a 3) τ).map (fun q => (Value.int q.1, q.2))
  | 37 => (f_X10_odds (a 1) (a 2) τ).map (fun q => (Value.int q.1, q.2))
  | 38 => (f_X10_mid (a 1) (a 2) τ).map (fun q => (Value.int q.1, q.2))
  | 39 => (f_X10_lots (a 1) (a 2) τ).map (fun q => (Value.int q.1, q.2))
  | 40 => (f_X10_asked τ).map (fun q => (Value.int q, τ))
  | 41 => (f_X10_upper τ).map (fun q => (Value.long q, τ))
  | 42 => (f_X10_lower τ).map (fun q => (Value.long q, τ))
  | 43 => (f_X10_count (a 1) τ).map (fun q => (Value.int q, τ))
  | 44 => (f_X10_finding τ).map (fun q => (Value.int q, τ))
  | 45 => (f_X10_findings (a 1) τ).map (fun q => (Value.int q, τ))
  | 46 => (f_X10_digest τ).map (fun q => (Value.long q, τ))
  | _ => none
/-- what stays over the whole law -/
def lx_C (p : Program) (s : State) (m : MethodId) (meth : Method) (c : Code) (b L : Nat) (xs : Nat → Int32) (D : va_G) (ca : Nat → ClassId) (ad0 ad1 : Nat → Nat) (tk : Nat) : Prop :=
  lw_At p s m meth c b L xs ∧ va_K D vwCl (rf_ty ca) s ∧ (∀ σ, va_D (fun q : Nat => s.heap.size ≤ q) (rf_w ca ad0 ly0 σ)) ∧ (∀ τ, va_D (fun q : Nat => s.heap.size ≤ q) (rf_w ca ad1 ly1 τ)) ∧ (∀ i j : Nat, i < ly0.length → j < ly1.length → ad0 i ≠ ad1 j) ∧ (∀ w ∈ rf_nw, va_Nw w s) ∧ va_Z "FeltCold" "KIND_SIGNS" "[I" (.ref tk) (fun q : Nat => s.heap.size ≤ q) s s.heap ∧ va_T .int tk 6 rf_ks (fun q : Nat => s.heap.size ≤ q) s s.heap
def lx_W (p : Program) (l : Launch) (e : Env) (s : State) (m : MethodId) (below : List Frame) (meth : Method) (c : Code) (b : Nat) (D : va_G) (ca : Nat → ClassId) (ad0 ad1 : Nat → Nat) (pc : Nat) (i : Int32) (st : List Value) (σ τ : rf_S) : Prop :=
  ∀ (H : Heap) (locs : List Loc) (lC : Array Slot), va_P D vwCl (rf_w ca ad0 ly0 σ) H → va_P D vwCl (rf_w ca ad1 ly1 τ) H → va_S (fun q : Nat => s.heap.size ≤ q) s.heap H locs → lv_has lC 4 [(0, .ref b), (1, .ref (ad0 0)), (2, .ref (ad1 0)), (3, .int i)] → W p l e room_1 s m #[Value.ref b] below meth c H locs 600000 7302250 (lw_Z below #[Value.ref b] s) (F0 m pc lC st)
theorem lx_ax {p : Program} {l : Launch} {e : Env} {s : State} {m : MethodId} {below : List Frame} {meth : Method} {c : Code} {b L : Nat} {xs : Nat → Int32} {D : va_G} {ca : Nat → ClassId} {ad0 ad1 : Nat → Nat} {tk : Nat} (hC : lx_C p s m meth c b L xs D ca ad0 ad1 tk) {pc : Nat} {i : Int32} {st : List Value} {σ τ : rf_S} (hd : decode code pc = .ok (.aload_n 1, 1)) (k : lx_W p l e s m below meth c b D ca ad0 ad1 (pc + 1) i (.ref (ad0 0) :: st) σ τ) : lx_W p l e s m below meth c b D ca ad0 ad1 pc i st σ τ := fun H locs lC hP hQ hS hl => lv_aload_n hC.1.1 hC.1.2.1 hd rfl (lv_at hl 1 rfl) (k H locs lC hP hQ hS hl)
theorem lx_am {p : Program} {l : Launch} {e : Env} {s : State} {m : MethodId} {below : List Frame} {meth : Method} {c : Code} {b L : Nat} {xs : Nat → Int32} {D : va_G} {ca : Nat → ClassId} {ad0 ad1 : Nat → Nat} {tk : Nat} (hC : lx_C p s m meth c b L xs D ca ad0 ad1 tk) {pc : Nat} {i : Int32} {st : List Value} {σ τ : rf_S} (hd : decode code pc = .ok (.aload_n 2, 1)) (k : lx_W p l e s m below meth c b D ca ad0 ad1 (pc + 1) i (.ref (ad1 0) :: st) σ τ) : lx_W p l e s m below meth c b D ca ad0 ad1 pc i st σ τ := fun H locs lC hP hQ hS hl => lv_aload_n hC.1.1 hC.1.2.1 hd rfl (lv_at hl 2 rfl) (k H locs lC hP hQ hS hl)
theorem lx_arg {p : Program} {l : Launch} {e : Env} {s : State} {m : MethodId} {below : List Frame} {meth : Method} {c : Code} {b L : Nat} {xs : Nat → Int32} {D : va_G} {ca : Nat → ClassId} {ad0 ad1 : Nat → Nat} {tk : Nat} (hC : lx_C p s m meth c b L xs D ca ad0 ad1 tk) {pc : Nat} {i j : Int32} {n : Int} {st : List Value} {σ τ : rf_S} (h0 : decode code pc = .ok (.aload_n 0, 1)) (h1 : decode code (pc + 1) = .ok (.iload_n 3, 1)) (h2 : decode code (pc + 2) = .ok (.iconst n, 1)) (hn : Int32.ofInt n = j) (h3 : decode code (pc + 3) = .ok (.iadd, 1)) (h4 : decode code (pc + 4) = .ok (.iaload, 1)) (hin : vp_in (i + j) L) (k : lx_W p l e s m below meth c b D ca ad0 ad1 (pc + 5) i (.int (xs (i + j).toNatClampNeg) :: st) σ τ) : lx_W p l e s m below meth c b D ca ad0 ad1 pc i st σ τ := by
  intro H locs lC hP hQ hS hl
  obtain ⟨hx, hb, hr, hml, hown, hts, hX, hbl, hlocks, hgv⟩ := hC.1
  have hbA : ¬ (fun q : Nat => s.heap.size ≤ q) b := Nat.not_le.mpr hbl
  refine lv_aload_n hx hb h0 rfl (lv_at hl 0 rfl) ?_
  refine lv_iload_n hx hb h1 rfl (lv_at hl 3 rfl) ?_
  refine lv_iconst hx hb h2 hn ?_
  refine lv_iadd hx hb h3 ?_
  exact va_sld hx hb hX hbl hbA hS hin h4 (k H locs lC hP hQ hS hl)
theorem lx_tbg {w : Cond} (h : w ∈ rf_tb) : w ∈ lw_tbl := (List.mem_filter.mp h).1
theorem lx_keep {D : va_G} {ca : Nat → ClassId} {ad0 ad1 : Nat → Nat} {la lb : List rf_C} {σ τ : rf_S} {H H1 : Heap} (hdis : ∀ i j : Nat, i < la.length → j < lb.length → ad0 i ≠ ad1 j) (hQ : va_P D vwCl (rf_w ca ad1 lb τ) H) (hk : ∀ q : Nat, q < H.size → ¬ va_A (rf_w ca ad0 la σ) H.size q → H1[q]? = H[q]?) : va_P D vwCl (rf_w ca ad1 lb τ) H1 := by
  refine hQ.kept (fun k q hq => ?_)
  have hlt := (hQ k q hq).lt
  refine hk q.1 hlt (fun z => ?_)
  rw [rf_w_get] at hq
  obtain ⟨en, h1, h2⟩ := Option.map_eq_some_iff.mp hq
  rcases z with ⟨i, e, hi⟩ | z
  · rw [rf_w_get] at hi
    obtain ⟨en2, g1, g2⟩ := Option.map_eq_some_iff.mp hi
    have e1 : ad0 i = q.1 := congrArg Prod.fst g2
    have e2 : ad1 k = q.1 := by rw [← h2]
    exact hdis i k (List.getElem?_eq_some_iff.mp g1).1 (List.getElem?_eq_some_iff.mp h1).1 (e1.trans e2.symm)
  · omega
theorem lx_ints (ad : Nat → Nat) (As : List Int32) : (As.map Value.int).map (rf_cv ad) = As.map Value.int := by
  rw [List.map_map]
  rfl
theorem lx_A0 {ca : Nat → ClassId} {ad : Nat → Nat} {ly : List rf_C} {σ : rf_S} {n sz : Nat} (hD : va_D (fun q : Nat => n ≤ q) (rf_w ca ad ly σ)) (hs : n ≤ sz) : ∀ q, va_A (rf_w ca ad ly σ) sz q → n ≤ q := by
  intro q h
  rcases h with ⟨k, e, h⟩ | h
  · exact hD.2 k (q, e) h
  · omega
set_option maxHeartbeats 1000000 in
theorem lx_c0 {p : Program} {l : Launch} {e : Env} {s : State} {m : MethodId} {below : List Frame} {meth : Method} {c : Code} {b L : Nat} {xs : Nat → Int32} {D : va_G} {ca : Nat → ClassId} {ad0 ad1 : Nat → Nat} {tk : Nat} (hC : lx_C p s m meth c b L xs D ca ad0 ad1 tk) {pc ix d : Nat} {i : Int32} {rest : List Value} {σ τ σ1 : rf_S} {Mt : rf_M} (As : List Int32) {v : Value} (hd : decode code pc = .ok (.invokevirtual ix, 3)) (hlk : Cond.methodLink R_law ix Mt.2.1 ∈ lw_tbl) (hmt : rf_mw Mt) (hss : Mt.2.2.2.2.2.2 = false) (ho : Mt.1 = 9) (hn : As.length = Mt.2.2.2.2.2.1) (hrs : (rest.map fun v => v.category).sum ≤ 8) (hd40 : d ≤ 40) (hv : ∀ ad, rf_cv ad v = v) (hex : rf_Ex ly0 d Mt (.ref 0 :: As.map Value.int) σ (some v) σ1) (k : lx_W p l e s m below meth c b D ca ad0 ad1 (pc + 3) i (v :: rest) σ1 τ) : lx_W p l e s m below meth c b D ca ad0 ad1 pc i ((As.map Value.int).reverse ++ .ref (ad0 0) :: rest) σ τ := by
  intro H locs lC hP hQ hS hl
  obtain ⟨⟨hx, hb, hr, hml, hown, hts, hX, hbl, hlocks, hgv⟩, hK, hD0, hD1, hdis, hN, hZ, hT⟩ := hC
  obtain ⟨q1, q2, q3, q4, q5, q6, q7⟩ := rf_mq_spec hmt.2.2.2
  have hw : ∀ w ∈ rf_tb, w.before #[Value.ref b] s = true := fun w h => hts w (lx_tbg h)
  have hroom : (rf_rm d).frames + 1 ≤ room_1.frames ∧ 8 + (Mt.2.2.2.1 + 11) + (rf_rm d).locals ≤ room_1.locals := ⟨by show d + 1 ≤ 2048; omega, by show 8 + (Mt.2.2.2.1 + 11) + 50 * d ≤ 84000; omega⟩
  have hini : (Cond.initialized Mt.2.1.cls).before #[Value.ref b] s = true := by rw [q2]; exact hw _ (rf_ini q3)
  have hgood : GoodIn lw_tbl (rf_ws Mt) := rf_good Mt (fun w h => lx_tbg h) hmt.1
  obtain ⟨hi1, hi2⟩ := hmt.2.2.1 hss
  have hsel : (Cond.selects (rf_cn Mt.1) Mt.2.1 Mt.2.1).before #[Value.ref b] s = true := by rw [← q2]; exact hts _ hi2
  have hAA := lx_A0 (hD0 σ) hS.1
  have hobj : rf_ob ly0 Mt.1 0 = true := by rw [ho]; rfl
  have hpv : PreV s H (rf_cn Mt.1) (ad0 0) (va_Pc ((Value.ref 0 :: As.map Value.int).map (rf_cv ad0)) (fun U => U.heap.size = H.size ∧ rf_X ly0 D ca ad0 tk (va_A (rf_w ca ad0 ly0 σ) H.size) σ U)) (As.map Value.int) := by
    refine ⟨rf_blind _ _ _ _ _ _ _ _ _, rf_recv wf0 hobj hK hP, fun U hU hW => ⟨?_, by rw [hU], by rw [hU]; exact hP, va_K.moved hW.alike hK, (hD0 σ).weaken (fun _ _ _ _ => trivial), fun w hw => rf_nwm hw hW (hN w hw), ?_, ?_⟩⟩
    · rw [List.map_cons, lx_ints]
      rfl
    · rw [hU]
      exact ((hZ.moved hW.alike).kept (fun a h1 h2 => hS.2.1 a h1 h2)).narrow hAA
    · rw [hU]
      exact ((hT.moved hW.alike).kept (fun a h1 h2 => hS.2.1 a h1 h2)).narrow hAA
  have hrun := va_runV (p := p) (l := l) (e := e) (R := room_1) (s := s) (m := m) (args := #[Value.ref b]) (below := below) (meth := meth) (c := c) (H := H) (locs := locs) (cells := 600000) (slots := 7302250) (C := rf_cn Mt.1) (Ts := lw_tbl) (own := R_law) (As := As.map Value.int) (rest := rest) (g := F0 m pc lC ((As.map Value.int).reverse ++ .ref (ad0 0) :: rest)) ⟨hx, hb, hml, hown, hts⟩ (hex l D ca ad0 tk H.size) ⟨callB_of Mt.2.2.2.2.2.1 hts hgood rfl rfl rfl hini (hts _ hlk) ⟨q5, q6, q7⟩ hroom, hts _ hi1, hsel⟩ hpv rfl (by rw [List.length_map]; exact hn) hl.1 rfl (lv_room hrs) hd ⟨Nat.le_refl _, Nat.le_refl _⟩
  intro T hT0 X
  obtain ⟨v0, st₀, t, T', L0, h0, X', hL0, e1, e2, ⟨hv0, hP1, hz, hk⟩, stp⟩ := hrun T hT0 X
  rw [h0] at hz hk
  rw [← e1] at hz hk hP1
  have hv0 : v0 = some v := by
    have := Outcome.returned.inj hv0
    rw [this]
    show some (rf_cv _ v) = some v
    rw [hv]
  subst hv0
  obtain ⟨t2, a1, b1⟩ := k T'.heap (locs ++ L0) lC hP1 (lx_keep hdis hQ hk) ⟨Nat.le_trans hS.1 hz, fun q h1 h2 => by rw [hk q (Nat.lt_of_lt_of_le h1 hS.1) (fun z => h2 (hAA q z))]; exact hS.2.1 q h1 h2, fun q hq => by
      rcases List.mem_append.mp hq with h | h
      · exact hS.2.2 q h
      · exact hAA _ (hL0 q h)⟩ hl T' rfl X'
  exact ⟨t2, stp t2 a1, b1⟩
set_option maxHeartbeats 1000000 in
theorem lx_c1 {p : Program} {l : Launch} {e : Env} {s : State} {m : MethodId} {below : List Frame} {meth : Method} {c : Code} {b L : Nat} {xs : Nat → Int32} {D : va_G} {ca : Nat → ClassId} {ad0 ad1 : Nat → Nat} {tk : Nat} (hC : lx_C p s m meth c b L xs D ca ad0 ad1 tk) {pc ix d : Nat} {i : Int32} {rest : List Value} {σ τ τ1 : rf_S} {Mt : rf_M} (As : List Int32) {v : Value} (hd : decode code pc = .ok (.invokevirtual ix, 3)) (hlk : Cond.methodLink R_law ix Mt.2.1 ∈ lw_tbl) (hmt : rf_mw Mt) (hss : Mt.2.2.2.2.2.2 = false) (ho : Mt.1 = 10) (hn : As.length = Mt.2.2.2.2.2.1) (hrs : (rest.map fun v => v.category).sum ≤ 8) (hd40 : d ≤ 40) (hv : ∀ ad, rf_cv ad v = v) (hex : rf_Ex ly1 d Mt (.ref 0 :: As.map Value.int) τ (some v) τ1) (k : lx_W p l e s m below meth c b D ca ad0 ad1 (pc + 3) i (v :: rest) σ τ1) : lx_W p l e s m below meth c b D ca ad0 ad1 pc i ((As.map Value.int).reverse ++ .ref (ad1 0) :: rest) σ τ := by
  intro H locs lC hP hQ hS hl
  obtain ⟨⟨hx, hb, hr, hml, hown, hts, hX, hbl, hlocks, hgv⟩, hK, hD0, hD1, hdis, hN, hZ, hT⟩ := hC
  obtain ⟨q1, q2, q3, q4, q5, q6, q7⟩ := rf_mq_spec hmt.2.2.2
  have hw : ∀ w ∈ rf_tb, w.before #[Value.ref b] s = true := fun w h => hts w (lx_tbg h)
  have hroom : (rf_rm d).frames + 1 ≤ room_1.frames ∧ 8 + (Mt.2.2.2.1 + 11) + (rf_rm d).locals ≤ room_1.locals := ⟨by show d + 1 ≤ 2048; omega, by show 8 + (Mt.2.2.2.1 + 11) + 50 * d ≤ 84000; omega⟩
  have hini : (Cond.initialized Mt.2.1.cls).before #[Value.ref b] s = true := by rw [q2]; exact hw _ (rf_ini q3)
  have hgood : GoodIn lw_tbl (rf_ws Mt) := rf_good Mt (fun w h => lx_tbg h) hmt.1
  obtain ⟨hi1, hi2⟩ := hmt.2.2.1 hss
  have hsel : (Cond.selects (rf_cn Mt.1) Mt.2.1 Mt.2.1).before #[Value.ref b] s = true := by rw [← q2]; exact hts _ hi2
  have hAA := lx_A0 (hD1 τ) hS.1
  have hobj : rf_ob ly1 Mt.1 0 = true := by rw [ho]; rfl
  have hpv : PreV s H (rf_cn Mt.1) (ad1 0) (va_Pc ((Value.ref 0 :: As.map Value.int).map (rf_cv ad1)) (fun U => U.heap.size = H.size ∧ rf_X ly1 D ca ad1 tk (va_A (rf_w ca ad1 ly1 τ) H.size) τ U)) (As.map Value.int) := by
    refine ⟨rf_blind _ _ _ _ _ _ _ _ _, rf_recv wf1 hobj hK hQ, fun U hU hW => ⟨?_, by rw [hU], by rw [hU]; exact hQ, va_K.moved hW.alike hK, (hD1 τ).weaken (fun _ _ _ _ => trivial), fun w hw => rf_nwm hw hW (hN w hw), ?_, ?_⟩⟩
    · rw [List.map_cons, lx_ints]
      rfl
    · rw [hU]
      exact ((hZ.moved hW.alike).kept (fun a h1 h2 => hS.2.1 a h1 h2)).narrow hAA
    · rw [hU]
      exact ((hT.moved hW.alike).kept (fun a h1 h2 => hS.2.1 a h1 h2)).narrow hAA
  have hrun := va_runV (p := p) (l := l) (e := e) (R := room_1) (s := s) (m := m) (args := #[Value.ref b]) (below := below) (meth := meth) (c := c) (H := H) (locs := locs) (cells := 600000) (slots := 7302250) (C := rf_cn Mt.1) (Ts := lw_tbl) (own := R_law) (As := As.map Value.int) (rest := rest) (g := F0 m pc lC ((As.map Value.int).reverse ++ .ref (ad1 0) :: rest)) ⟨hx, hb, hml, hown, hts⟩ (hex l D ca ad1 tk H.size) ⟨callB_of Mt.2.2.2.2.2.1 hts hgood rfl rfl rfl hini (hts _ hlk) ⟨q5, q6, q7⟩ hroom, hts _ hi1, hsel⟩ hpv rfl (by rw [List.length_map]; exact hn) hl.1 rfl (lv_room hrs) hd ⟨Nat.le_refl _, Nat.le_refl _⟩
  intro T hT0 X
  obtain ⟨v0, st₀, t, T', L0, h0, X', hL0, e1, e2, ⟨hv0, hP1, hz, hk⟩, stp⟩ := hrun T hT0 X
  rw [h0] at hz hk
  rw [← e1] at hz hk hP1
  have hv0 : v0 = some v := by
    have := Outcome.returned.inj hv0
    rw [this]
    show some (rf_cv _ v) = some v
    rw [hv]
  subst hv0
  obtain ⟨t2, a1, b1⟩ := k T'.heap (locs ++ L0) lC (lx_keep (fun i j hi hj q => hdis j i hj hi q.symm) hP hk) hP1 ⟨Nat.le_trans hS.1 hz, fun q h1 h2 => by rw [hk q (Nat.lt_of_lt_of_le h1 hS.1) (fun z => h2 (hAA q z))]; exact hS.2.1 q h1 h2, fun q hq => by
      rcases List.mem_append.mp hq with h | h
      · exact hS.2.2 q h
      · exact hAA _ (hL0 q h)⟩ hl T' rfl X'
  exact ⟨t2, stp t2 a1, b1⟩
theorem lx_eq {p : Program} {l : Launch} {e : Env} {s : State} {m : MethodId} {below : List Frame} {meth : Method} {c : Code} {b L : Nat} {xs : Nat → Int32} {D : va_G} {ca : Nat → ClassId} {ad0 ad1 : Nat → Nat} {tk : Nat} (hC : lx_C p s m meth c b L xs D ca ad0 ad1 tk) {pc : Nat} {i v : Int32} {off : Int} {σ τ : rf_S} (hd : decode code pc = .ok (.if_icmp .eq off, 3)) (ht : (pc : Int) + off = 1490) (k : lx_W p l e s m below meth c b D ca ad0 ad1 1490 i [] σ τ) : lx_W p l e s m below meth c b D ca ad0 ad1 pc i [.int v, .int v] σ τ := fun H locs lC hP hQ hS hl => lv_icmp_eq (tgt := 1490) hC.1.1 hC.1.2.1 hd ht (fun _ => k H locs lC hP hQ hS hl) (fun q => absurd rfl q)
theorem lx_eql {p : Program} {l : Launch} {e : Env} {s : State} {m : MethodId} {below : List Frame} {meth : Method} {c : Code} {b L : Nat} {xs : Nat → Int32} {D : va_G} {ca : Nat → ClassId} {ad0 ad1 : Nat → Nat} {tk : Nat} (hC : lx_C p s m meth c b L xs D ca ad0 ad1 tk) {pc : Nat} {i : Int32} {v : Int64} {off : Int} {σ τ : rf_S} (hd0 : decode code pc = .ok (.lcmp, 1)) (hd : decode code (pc + 1) = .ok (.ifCond .eq off, 3)) (ht : ((pc + 1 : Nat) : Int) + off = 1490) (k : lx_W p l e s m below meth c b D ca ad0 ad1 1490 i [] σ τ) : lx_W p l e s m below meth c b D ca ad0 ad1 pc i [.long v, .long v] σ τ := fun H locs lC hP hQ hS hl => W.lcmp hC.1.1 hC.1.2.1 hd0 (lv_if_eq (tgt := 1490) hC.1.1 hC.1.2.1 hd ht (fun _ => k H locs lC hP hQ hS hl) (fun q => absurd (by simp [lg_cmp]) q))
theorem lx_inc {p : Program} {l : Launch} {e : Env} {s : State} {m : MethodId} {below : List Frame} {meth : Method} {c : Code} {b L : Nat} {xs : Nat → Int32} {D : va_G} {ca : Nat → ClassId} {ad0 ad1 : Nat → Nat} {tk : Nat} (hC : lx_C p s m meth c b L xs D ca ad0 ad1 tk) {i : Int32} {σ τ : rf_S} (k : lx_W p l e s m below meth c b D ca ad0 ad1 18 (i + 6) [] σ τ) : lx_W p l e s m below meth c b D ca ad0 ad1 1490 i [] σ τ := by
  intro H locs lC hP hQ hS hl
  refine lv_iinc (v := i + 6) (lv' := [(3, .int (i + 6)), (0, .ref b), (1, .ref (ad0 0)), (2, .ref (ad1 0))]) hC.1.1 hC.1.2.1 (lx_dec (e := (1490, .iinc 3 6, 3, 0)) lx_r24_ok (List.mem_of_getElem? (i := 34) rfl)) hl (k := 3) rfl rfl (by decide) rfl (fun lC hl => ?_)
  refine lv_goto (tgt := 18) hC.1.1 hC.1.2.1 (lx_dec (e := (1493, .goto (-1475), 3, 0)) lx_r24_ok (List.mem_of_getElem? (i := 35) rfl)) (by decide) ?_
  exact k H locs lC hP hQ hS (lv_sub hl [1, 2, 3, 0] rfl)
set_option maxHeartbeats 1000000 in
theorem lx_k0 {p : Program} {l : Launch} {e : Env} {s : State} {m : MethodId} {below : List Frame} {meth : Method} {c : Code} {b L : Nat} {xs : Nat → Int32} {D : va_G} {ca : Nat → ClassId} {ad0 ad1 : Nat → Nat} {tk : Nat} (hC : lx_C p s m meth c b L xs D ca ad0 ad1 tk) {i : Int32} {σ τ σ1 τ1 : rf_S} {v : Value} (hin : ∀ j : Int32, 0 < j → j ≤ 5 → vp_in (i + j) L) (a : Nat → Int32) (ha : ∀ j : Nat, j < 6 → a j = xs (i + nI j).toNatClampNeg) (h0 : opC 0 a σ = some (v, σ1)) (h1 : opM 0 a τ = some (v, τ1)) (k : lx_W p l e s m below meth c b D ca ad0 ad1 1490 i [] σ1 τ1) : lx_W p l e s m below meth c b D ca ad0 ad1 236 i [] σ τ := by
  have h0 : (f_X9_row (a 1) (a 2) σ).map (fun q => (Value.int q.1, q.2)) = some (v, σ1) := h0
  have h1 : (f_X10_row (a 1) (a 2) τ).map (fun q => (Value.int q.1, q.2)) = some (v, τ1) := h1
  obtain ⟨q, g0, e0⟩ := Option.map_eq_some_iff.mp h0
  obtain ⟨z, g1, e1⟩ := Option.map_eq_some_iff.mp h1
  have ev0 := congrArg Prod.fst e0
  have es0 := congrArg Prod.snd e0
  have ev1 := congrArg Prod.fst e1
  have es1 := congrArg Prod.snd e1
  dsimp only at ev0 es0 ev1 es1
  subst es0
  subst es1
  subst ev0
  have ez : z.1 = q.1 := Value.int.inj ev1
  rw [ha 1 (by decide), ha 2 (by decide)] at g0 g1
  refine lx_ax hC (lx_dec (e := (236, .aload_n 1, 1, 0)) lx_r0_ok (List.mem_of_getElem? (i := 22) rfl)) ?_
  refine lx_arg hC (j := nI 1) (lx_dec (e := (237, .aload_n 0, 1, 0)) lx_r0_ok (List.mem_of_getElem? (i := 23) rfl)) (lx_dec (e := (238, .iload_n 3, 1, 0)) lx_r0_ok (List.mem_of_getElem? (i := 24) rfl)) (lx_dec (e := (239, .iconst 1, 1, 0)) lx_r0_ok (List.mem_of_getElem? (i := 25) rfl)) (by decide) (lx_dec (e := (240, .iadd, 1, 0)) lx_r0_ok (List.mem_of_getElem? (i := 26) rfl)) (lx_dec (e := (241, .iaload, 1, 0)) lx_r0_ok (List.mem_of_getElem? (i := 27) rfl)) (hin _ (by decide) (by decide)) ?_
  refine lx_arg hC (j := nI 2) (lx_dec (e := (242, .aload_n 0, 1, 0)) lx_r0_ok (List.mem_of_getElem? (i := 28) rfl)) (lx_dec (e := (243, .iload_n 3, 1, 0)) lx_r0_ok (List.mem_of_getElem? (i := 29) rfl)) (lx_dec (e := (244, .iconst 2, 1, 0)) lx_r0_ok (List.mem_of_getElem? (i := 30) rfl)) (by decide) (lx_dec (e := (245, .iadd, 1, 0)) lx_r0_ok (List.mem_of_getElem? (i := 31) rfl)) (lx_dec (e := (246, .iaload, 1, 0)) lx_r0_ok (List.mem_of_getElem? (i := 32) rfl)) (hin _ (by decide) (by decide)) ?_
  refine lx_c0 hC (Mt := mX9_row) [xs (i + nI 1).toNatClampNeg, xs (i + nI 2).toNatClampNeg] (v := .int q.1) (lx_dec (e := (247, .invokevirtual 13, 3, 0)) lx_r0_ok (List.mem_of_getElem? (i := 33) rfl)) (List.mem_of_getElem? (i := 348) (by decide +kernel)) mw_X9_row rfl rfl rfl (by decide) (d := 3) (by decide) (fun _ => rfl) (ok_X9_row 0 (xs (i + nI 1).toNatClampNeg) (xs (i + nI 2).toNatClampNeg) σ q g0) ?_
  refine lx_am hC (lx_dec (e := (250, .aload_n 2, 1, 0)) lx_r0_ok (List.mem_of_getElem? (i := 34) rfl)) ?_
  refine lx_arg hC (j := nI 1) (lx_dec (e := (251, .aload_n 0, 1, 0)) lx_r0_ok (List.mem_of_getElem? (i := 35) rfl)) (lx_dec (e := (252, .iload_n 3, 1, 0)) lx_r0_ok (List.mem_of_getElem? (i := 36) rfl)) (lx_dec (e := (253, .iconst 1, 1, 0)) lx_r0_ok (List.mem_of_getElem? (i := 37) rfl)) (by decide) (lx_dec (e := (254, .iadd, 1, 0)) lx_r0_ok (List.mem_of_getElem? (i := 38) rfl)) (lx_dec (e := (255, .iaload, 1, 0)) lx_r0_ok (List.mem_of_getElem? (i := 39) rfl)) (hin _ (by decide) (by decide)) ?_
  refine lx_arg hC (j := nI 2) (lx_dec (e := (256, .aload_n 0, 1, 0)) lx_r1_ok (List.mem_of_getElem? (i := 0) rfl)) (lx_dec (e := (257, .iload_n 3, 1, 0)) lx_r1_ok (List.mem_of_getElem? (i := 1) rfl)) (lx_dec (e := (258, .iconst 2, 1, 0)) lx_r1_ok (List.mem_of_getElem? (i := 2) rfl)) (by decide) (lx_dec (e := (259, .iadd, 1, 0)) lx_r1_ok (List.mem_of_getElem? (i := 3) rfl)) (lx_dec (e := (260, .iaload, 1, 0)) lx_r1_ok (List.mem_of_getElem? (i := 4) rfl)) (hin _ (by decide) (by decide)) ?_
  refine lx_c1 hC (Mt := mX10_row) [xs (i + nI 1).toNatClampNeg, xs (i + nI 2).toNatClampNeg] (v := .int z.1) (rest := [.int q.1]) (lx_dec (e := (261, .invokevirtual 17, 3, 0)) lx_r1_ok (List.mem_of_getElem? (i := 5) rfl)) (List.mem_of_getElem? (i := 1099) (by decide +kernel)) mw_X10_row rfl rfl rfl (Nat.le_of_ble_eq_true rfl) (d := 2) (by decide) (fun _ => rfl) (ok_X10_row 0 (xs (i + nI 1).toNatClampNeg) (xs (i + nI 2).toNatClampNeg) τ z g1) ?_
  rw [ez]
  exact lx_eq hC (lx_dec (e := (264, .if_icmp .eq 1226, 3, 0)) lx_r1_ok (List.mem_of_getElem? (i := 6) rfl)) (by decide) k
set_option maxHeartbeats 1000000 in
theorem lx_k1 {p : Program} {l : Launch} {e : Env} {s : State} {m : MethodId} {below : List Frame} {meth : Method} {c : Code} {b L : Nat} {xs : Nat → Int32} {D : va_G} {ca : Nat → ClassId} {ad0 ad1 : Nat → Nat} {tk : Nat} (hC : lx_C p s m meth c b L xs D ca ad0 ad1 tk) {i : Int32} {σ τ σ1 τ1 : rf_S} {v : Value} (hin : ∀ j : Int32, 0 < j → j ≤ 5 → vp_in (i + j) L) (a : Nat → Int32) (ha : ∀ j : Nat, j < 6 → a j = xs (i + nI j).toNatClampNeg) (h0 : opC 1 a σ = some (v, σ1)) (h1 : opM 1 a τ = some (v, τ1)) (k : lx_W p l e s m below meth c b D ca ad0 ad1 1490 i [] σ1 τ1) : lx_W p l e s m below meth c b D ca ad0 ad1 269 i [] σ τ := by
  have h0 : (f_X9_lay (a 1) (a 2) (a 3) σ).map (fun q => (Value.int q.1, q.2)) = some (v, σ1) := h0
  have h1 : (f_X10_lay (a 1) (a 2) (a 3) τ).map (fun q => (Value.int q.1, q.2)) = some (v, τ1) := h1
  obtain ⟨q, g0, e0⟩ := Option.map_eq_some_iff.mp h0
  obtain ⟨z, g1, e1⟩ := Option.map_eq_some_iff.mp h1
  have ev0 := congrArg Prod.fst e0
  have es0 := congrArg Prod.snd e0
  have ev1 := congrArg Prod.fst e1
  have es1 := congrArg Prod.snd e1
  dsimp only at ev0 es0 ev1 es1
  subst es0
  subst es1
  subst ev0
  have ez : z.1 = q.1 := Value.int.inj ev1
  rw [ha 1 (by decide), ha 2 (by decide), ha 3 (by decide)] at g0 g1
  refine lx_ax hC (lx_dec (e := (269, .aload_n 1, 1, 0)) lx_r1_ok (List.mem_of_getElem? (i := 9) rfl)) ?_
  refine lx_arg hC (j := nI 1) (lx_dec (e := (270, .aload_n 0, 1, 0)) lx_r1_ok (List.mem_of_getElem? (i := 10) rfl)) (lx_dec (e := (271, .iload_n 3, 1, 0)) lx_r1_ok (List.mem_of_getElem? (i := 11) rfl)) (lx_dec (e := (272, .iconst 1, 1, 0)) lx_r1_ok (List.mem_of_getElem? (i := 12) rfl)) (by decide) (lx_dec (e := (273, .iadd, 1, 0)) lx_r1_ok (List.mem_of_getElem? (i := 13) rfl)) (lx_dec (e := (274, .iaload, 1, 0)) lx_r1_ok (List.mem_of_getElem? (i := 14) rfl)) (hin _ (by decide) (by decide)) ?_
  refine lx_arg hC (j := nI 2) (lx_dec (e := (275, .aload_n 0, 1, 0)) lx_r1_ok (List.mem_of_getElem? (i := 15) rfl)) (lx_dec (e := (276, .iload_n 3, 1, 0)) lx_r1_ok (List.mem_of_getElem? (i := 16) rfl)) (lx_dec (e := (277, .iconst 2, 1, 0)) lx_r1_ok (List.mem_of_getElem? (i := 17) rfl)) (by decide) (lx_dec (e := (278, .iadd, 1, 0)) lx_r1_ok (List.mem_of_getElem? (i := 18) rfl)) (lx_dec (e := (279, .iaload, 1, 0)) lx_r1_ok (List.mem_of_getElem? (i := 19) rfl)) (hin _ (by decide) (by decide)) ?_
  refine lx_arg hC (j := nI 3) (lx_dec (e := (280, .aload_n 0, 1, 0)) lx_r1_ok (List.mem_of_getElem? (i := 20) rfl)) (lx_dec (e := (281, .iload_n 3, 1, 0)) lx_r1_ok (List.mem_of_getElem? (i := 21) rfl)) (lx_dec (e := (282, .iconst 3, 1, 0)) lx_r1_ok (List.mem_of_getElem? (i := 22) rfl)) (by decide) (lx_dec (e := (283, .iadd, 1, 0)) lx_r1_ok (List.mem_of_getElem? (i := 23) rfl)) (lx_dec (e := (284, .iaload, 1, 0)) lx_r1_ok (List.mem_of_getElem? (i := 24) rfl)) (hin _ (by decide) (by decide)) ?_
  refine lx_c0 hC (Mt := mX9_lay) [xs (i + nI 1).toNatClampNeg, xs (i + nI 2).toNatClampNeg, xs (i + nI 3).toNatClampNeg] (v := .int q.1) (lx_dec (e := (285, .invokevirtual 18, 3, 0)) lx_r1_ok (List.mem_of_getElem? (i := 25) rfl)) (List.mem_of_getElem? (i := 363) (by decide +kernel)) mw_X9_lay rfl rfl rfl (by decide) (d := 4) (by decide) (fun _ => rfl) (ok_X9_lay 0 (xs (i + nI 1).toNatClampNeg) (xs (i + nI 2).toNatClampNeg) (xs (i + nI 3).toNatClampNeg) σ q g0) ?_
  refine lx_am hC (lx_dec (e := (288, .aload_n 2, 1, 0)) lx_r1_ok (List.mem_of_getElem? (i := 26) rfl)) ?_
  refine lx_arg hC (j := nI 1) (lx_dec (e := (289, .aload_n 0, 1, 0)) lx_r1_ok (List.mem_of_getElem? (i := 27) rfl)) (lx_dec (e := (290, .iload_n 3, 1, 0)) lx_r1_ok (List.mem_of_getElem? (i := 28) rfl)) (lx_dec (e := (291, .iconst 1, 1, 0)) lx_r1_ok (List.mem_of_getElem? (i := 29) rfl)) (by decide) (lx_dec (e := (292, .iadd, 1, 0)) lx_r1_ok (List.mem_of_getElem? (i := 30) rfl)) (lx_dec (e := (293, .iaload, 1, 0)) lx_r1_ok (List.mem_of_getElem? (i := 31) rfl)) (hin _ (by decide) (by decide)) ?_
  refine lx_arg hC (j := nI 2) (lx_dec (e := (294, .aload_n 0, 1, 0)) lx_r1_ok (List.mem_of_getElem? (i := 32) rfl)) (lx_dec (e := (295, .iload_n 3, 1, 0)) lx_r1_ok (List.mem_of_getElem? (i := 33) rfl)) (lx_dec (e := (296, .iconst 2, 1, 0)) lx_r1_ok (List.mem_of_getElem? (i := 34) rfl)) (by decide) (lx_dec (e := (297, .iadd, 1, 0)) lx_r1_ok (List.mem_of_getElem? (i := 35) rfl)) (lx_dec (e := (298, .iaload, 1, 0)) lx_r1_ok (List.mem_of_getElem? (i := 36) rfl)) (hin _ (by decide) (by decide)) ?_
  refine lx_arg hC (j := nI 3) (lx_dec (e := (299, .aload_n 0, 1, 0)) lx_r1_ok (List.mem_of_getElem? (i := 37) rfl)) (lx_dec (e := (300, .iload_n 3, 1, 0)) lx_r1_ok (List.mem_of_getElem? (i := 38) rfl)) (lx_dec (e := (301, .iconst 3, 1, 0)) lx_r1_ok (List.mem_of_getElem? (i := 39) rfl)) (by decide) (lx_dec (e := (302, .iadd, 1, 0)) lx_r2_ok (List.mem_of_getElem? (i := 0) rfl)) (lx_dec (e := (303, .iaload, 1, 0)) lx_r2_ok (List.mem_of_getElem? (i := 1) rfl)) (hin _ (by decide) (by decide)) ?_
  refine lx_c1 hC (Mt := mX10_lay) [xs (i + nI 1).toNatClampNeg, xs (i + nI 2).toNatClampNeg, xs (i + nI 3).toNatClampNeg] (v := .int z.1) (rest := [.int q.1]) (lx_dec (e := (304, .invokevirtual 22, 3, 0)) lx_r2_ok (List.mem_of_getElem? (i := 2) rfl)) (List.mem_of_getElem? (i := 1110) (by decide +kernel)) mw_X10_lay rfl rfl rfl (Nat.le_of_ble_eq_true rfl) (d := 3) (by decide) (fun _ => rfl) (ok_X10_lay 0 (xs (i + nI 1).toNatClampNeg) (xs (i + nI 2).toNatClampNeg) (xs (i + nI 3).toNatClampNeg) τ z g1) ?_
  rw [ez]
  exact lx_eq hC (lx_dec (e := (307, .if_icmp .eq 1183, 3, 0)) lx_r2_ok (List.mem_of_getElem? (i := 3) rfl)) (by decide) k
set_option maxHeartbeats 1000000 in
theorem lx_k2 {p : Program} {l : Launch} {e : Env} {s : State} {m : MethodId} {below : List Frame} {meth : Method} {c : Code} {b L : Nat} {xs : Nat → Int32} {D : va_G} {ca : Nat → ClassId} {ad0 ad1 : Nat → Nat} {tk : Nat} (hC : lx_C p s m meth c b L xs D ca ad0 ad1 tk) {i : Int32} {σ τ σ1 τ1 : rf_S} {v : Value} (hin : ∀ j : Int32, 0 < j → j ≤ 5 → vp_in (i + j) L) (a : Nat → Int32) (ha : ∀ j : Nat, j < 6 → a j = xs (i + nI j).toNatClampNeg) (h0 : opC 2 a σ = some (v, σ1)) (h1 : opM 2 a τ = some (v, τ1)) (k : lx_W p l e s m below meth c b D ca ad0 ad1 1490 i [] σ1 τ1) : lx_W p l e s m below meth c b D ca ad0 ad1 312 i [] σ τ := by
  have h0 : (f_X9_at (a 1) (a 2) σ).map (fun q => (Value.int q.1, q.2)) = some (v, σ1) := h0
  have h1 : (f_X10_at (a 1) (a 2) τ).map (fun q => (Value.int q.1, q.2)) = some (v, τ1) := h1
  obtain ⟨q, g0, e0⟩ := Option.map_eq_some_iff.mp h0
  obtain ⟨z, g1, e1⟩ := Option.map_eq_some_iff.mp h1
  have ev0 := congrArg Prod.fst e0
  have es0 := congrArg Prod.snd e0
  have ev1 := congrArg Prod.fst e1
  have es1 := congrArg Prod.snd e1
  dsimp only at ev0 es0 ev1 es1
  subst es0
  subst es1
  subst ev0
  have ez : z.1 = q.1 := Value.int.inj ev1
  rw [ha 1 (by decide), ha 2 (by decide)] at g0 g1
  refine lx_ax hC (lx_dec (e := (312, .aload_n 1, 1, 0)) lx_r2_ok (List.mem_of_getElem? (i := 6) rfl)) ?_
  refine lx_arg hC (j := nI 1) (lx_dec (e := (313, .aload_n 0, 1, 0)) lx_r2_ok (List.mem_of_getElem? (i := 7) rfl)) (lx_dec (e := (314, .iload_n 3, 1, 0)) lx_r2_ok (List.mem_of_getElem? (i := 8) rfl)) (lx_dec (e := (315, .iconst 1, 1, 0)) lx_r2_ok (List.mem_of_getElem? (i := 9) rfl)) (by decide) (lx_dec (e := (316, .iadd, 1, 0)) lx_r2_ok (List.mem_of_getElem? (i := 10) rfl)) (lx_dec (e := (317, .iaload, 1, 0)) lx_r2_ok (List.mem_of_getElem? (i := 11) rfl)) (hin _ (by decide) (by decide)) ?_
  refine lx_arg hC (j := nI 2) (lx_dec (e := (318, .aload_n 0, 1, 0)) lx_r2_ok (List.mem_of_getElem? (i := 12) rfl)) (lx_dec (e := (319, .iload_n 3, 1, 0)) lx_r2_ok (List.mem_of_getElem? (i := 13) rfl)) (lx_dec (e := (320, .iconst 2, 1, 0)) lx_r2_ok (List.mem_of_getElem? (i := 14) rfl)) (by decide) (lx_dec (e := (321, .iadd, 1, 0)) lx_r2_ok (List.mem_of_getElem? (i := 15) rfl)) (lx_dec (e := (322, .iaload, 1, 0)) lx_r2_ok (List.mem_of_getElem? (i := 16) rfl)) (hin _ (by decide) (by decide)) ?_
  refine lx_c0 hC (Mt := mX9_at) [xs (i + nI 1).toNatClampNeg, xs (i + nI 2).toNatClampNeg] (v := .int q.1) (lx_dec (e := (323, .invokevirtual 23, 3, 0)) lx_r2_ok (List.mem_of_getElem? (i := 17) rfl)) (List.mem_of_getElem? (i := 391) (by decide +kernel)) mw_X9_at rfl rfl rfl (by decide) (d := 4) (by decide) (fun _ => rfl) (ok_X9_at 0 (xs (i + nI 1).toNatClampNeg) (xs (i + nI 2).toNatClampNeg) σ q g0) ?_
  refine lx_am hC (lx_dec (e := (326, .aload_n 2, 1, 0)) lx_r2_ok (List.mem_of_getElem? (i := 18) rfl)) ?_
  refine lx_arg hC (j := nI 1) (lx_dec (e := (327, .aload_n 0, 1, 0)) lx_r2_ok (List.mem_of_getElem? (i := 19) rfl)) (lx_dec (e := (328, .iload_n 3, 1, 0)) lx_r2_ok (List.mem_of_getElem? (i := 20) rfl)) (lx_dec (e := (329, .iconst 1, 1, 0)) lx_r2_ok (List.mem_of_getElem? (i := 21) rfl)) (by decide) (lx_dec (e := (330, .iadd, 1, 0)) lx_r2_ok (List.mem_of_getElem? (i := 22) rfl)) (lx_dec (e := (331, .iaload, 1, 0)) lx_r2_ok (List.mem_of_getElem? (i := 23) rfl)) (hin _ (by decide) (by decide)) ?_
  refine lx_arg hC (j := nI 2) (lx_dec (e := (332, .aload_n 0, 1, 0)) lx_r2_ok (List.mem_of_getElem? (i := 24) rfl)) (lx_dec (e := (333, .iload_n 3, 1, 0)) lx_r2_ok (List.mem_of_getElem? (i := 25) rfl)) (lx_dec (e := (334, .iconst 2, 1, 0)) lx_r2_ok (List.mem_of_getElem? (i := 26) rfl)) (by decide) (lx_dec (e := (335, .iadd, 1, 0)) lx_r2_ok (List.mem_of_getElem? (i := 27) rfl)) (lx_dec (e := (336, .iaload, 1, 0)) lx_r2_ok (List.mem_of_getElem? (i := 28) rfl)) (hin _ (by decide) (by decide)) ?_
  refine lx_c1 hC (Mt := mX10_at) [xs (i + nI 1).toNatClampNeg, xs (i + nI 2).toNatClampNeg] (v := .int z.1) (rest := [.int q.1]) (lx_dec (e := (337, .invokevirtual 26, 3, 0)) lx_r2_ok (List.mem_of_getElem? (i := 29) rfl)) (List.mem_of_getElem? (i := 1122) (by decide +kernel)) mw_X10_at rfl rfl rfl (Nat.le_of_ble_eq_true rfl) (d := 3) (by decide) (fun _ => rfl) (ok_X10_at 0 (xs (i + nI 1).toNatClampNeg) (xs (i + nI 2).toNatClampNeg) τ z g1) ?_
  rw [ez]
  exact lx_eq hC (lx_dec (e := (340, .if_icmp .eq 1150, 3, 0)) lx_r2_ok (List.mem_of_getElem? (i := 30) rfl)) (by decide) k
set_option maxHeartbeats 1000000 in
theorem lx_k3 {p : Program} {l : Launch} {e : Env} {s : State} {m : MethodId} {below : List Frame} {meth : Method} {c : Code} {b L : Nat} {xs : Nat → Int32} {D : va_G} {ca : Nat → ClassId} {ad0 ad1 : Nat → Nat} {tk : Nat} (hC : lx_C p s m meth c b L xs D ca ad0 ad1 tk) {i : Int32} {σ τ σ1 τ1 : rf_S} {v : Value} (hin : ∀ j : Int32, 0 < j → j ≤ 5 → vp_in (i + j) L) (a : Nat → Int32) (ha : ∀ j : Nat, j < 6 → a j = xs (i + nI j).toNatClampNeg) (h0 : opC 3 a σ = some (v, σ1)) (h1 : opM 3 a τ = some (v, τ1)) (k : lx_W p l e s m below meth c b D ca ad0 ad1 1490 i [] σ1 τ1) : lx_W p l e s m below meth c b D ca ad0 ad1 345 i [] σ τ := by
  have h0 : (f_X9_tear (a 1) σ).map (fun q => (Value.int q.1, q.2)) = some (v, σ1) := h0
  have h1 : (f_X10_tear (a 1) τ).map (fun q => (Value.int q.1, q.2)) = some (v, τ1) := h1
  obtain ⟨q, g0, e0⟩ := Option.map_eq_some_iff.mp h0
  obtain ⟨z, g1, e1⟩ := Option.map_eq_some_iff.mp h1
  have ev0 := congrArg Prod.fst e0
  have es0 := congrArg Prod.snd e0
  have ev1 := congrArg Prod.fst e1
  have es1 := congrArg Prod.snd e1
  dsimp only at ev0 es0 ev1 es1
  subst es0
  subst es1
  subst ev0
  have ez : z.1 = q.1 := Value.int.inj ev1
  rw [ha 1 (by decide)] at g0 g1
  refine lx_ax hC (lx_dec (e := (345, .aload_n 1, 1, 0)) lx_r2_ok (List.mem_of_getElem? (i := 33) rfl)) ?_
  refine lx_arg hC (j := nI 1) (lx_dec (e := (346, .aload_n 0, 1, 0)) lx_r2_ok (List.mem_of_getElem? (i := 34) rfl)) (lx_dec (e := (347, .iload_n 3, 1, 0)) lx_r2_ok (List.mem_of_getElem? (i := 35) rfl)) (lx_dec (e := (348, .iconst 1, 1, 0)) lx_r2_ok (List.mem_of_getElem? (i := 36) rfl)) (by decide) (lx_dec (e := (349, .iadd, 1, 0)) lx_r2_ok (List.mem_of_getElem? (i := 37) rfl)) (lx_dec (e := (350, .iaload, 1, 0)) lx_r2_ok (List.mem_of_getElem? (i := 38) rfl)) (hin _ (by decide) (by decide)) ?_
  refine lx_c0 hC (Mt := mX9_tear) [xs (i + nI 1).toNatClampNeg] (v := .int q.1) (lx_dec (e := (351, .invokevirtual 27, 3, 0)) lx_r2_ok (List.mem_of_getElem? (i := 39) rfl)) (List.mem_of_getElem? (i := 395) (by decide +kernel)) mw_X9_tear rfl rfl rfl (by decide) (d := 3) (by decide) (fun _ => rfl) (ok_X9_tear 0 (xs (i + nI 1).toNatClampNeg) σ q g0) ?_
  refine lx_am hC (lx_dec (e := (354, .aload_n 2, 1, 0)) lx_r3_ok (List.mem_of_getElem? (i := 0) rfl)) ?_
  refine lx_arg hC (j := nI 1) (lx_dec (e := (355, .aload_n 0, 1, 0)) lx_r3_ok (List.mem_of_getElem? (i := 1) rfl)) (lx_dec (e := (356, .iload_n 3, 1, 0)) lx_r3_ok (List.mem_of_getElem? (i := 2) rfl)) (lx_dec (e := (357, .iconst 1, 1, 0)) lx_r3_ok (List.mem_of_getElem? (i := 3) rfl)) (by decide) (lx_dec (e := (358, .iadd, 1, 0)) lx_r3_ok (List.mem_of_getElem? (i := 4) rfl)) (lx_dec (e := (359, .iaload, 1, 0)) lx_r3_ok (List.mem_of_getElem? (i := 5) rfl)) (hin _ (by decide) (by decide)) ?_
  refine lx_c1 hC (Mt := mX10_tear) [xs (i + nI 1).toNatClampNeg] (v := .int z.1) (rest := [.int q.1]) (lx_dec (e := (360, .invokevirtual 31, 3, 0)) lx_r3_ok (List.mem_of_getElem? (i := 6) rfl)) (List.mem_of_getElem? (i := 1126) (by decide +kernel)) mw_X10_tear rfl rfl rfl (Nat.le_of_ble_eq_true rfl) (d := 2) (by decide) (fun _ => rfl) (ok_X10_tear 0 (xs (i + nI 1).toNatClampNeg) τ z g1) ?_
  rw [ez]
  exact lx_eq hC (lx_dec (e := (363, .if_icmp .eq 1127, 3, 0)) lx_r3_ok (List.mem_of_getElem? (i := 7) rfl)) (by decide) k
set_option maxHeartbeats 1000000 in
theorem lx_k4 {p : Program} {l : Launch} {e : Env} {s : State} {m : MethodId} {below : List Frame} {meth : Method} {c : Code} {b L : Nat} {xs : Nat → Int32} {D : va_G} {ca : Nat → ClassId} {ad0 ad1 : Nat → Nat} {tk : Nat} (hC : lx_C p s m meth c b L xs D ca ad0 ad1 tk) {i : Int32} {σ τ σ1 τ1 : rf_S} {v : Value} (hin : ∀ j : Int32, 0 < j → j ≤ 5 → vp_in (i + j) L) (a : Nat → Int32) (ha : ∀ j : Nat, j < 6 → a j = xs (i + nI j).toNatClampNeg) (h0 : opC 4 a σ = some (v, σ1)) (h1 : opM 4 a τ = some (v, τ1)) (k : lx_W p l e s m below meth c b D ca ad0 ad1 1490 i [] σ1 τ1) : lx_W p l e s m below meth c b D ca ad0 ad1 368 i [] σ τ := by
  have h0 : (f_X9_copy (a 1) (a 2) (a 3) (a 4) (a 5) σ).map (fun q => (Value.int q.1, q.2)) = some (v, σ1) := h0
  have h1 : (f_X10_copy (a 1) (a 2) (a 3) (a 4) (a 5) τ).map (fun q => (Value.int q.1, q.2)) = some (v, τ1) := h1
  obtain ⟨q, g0, e0⟩ := Option.map_eq_some_iff.mp h0
  obtain ⟨z, g1, e1⟩ := Option.map_eq_some_iff.mp h1
  have ev0 := congrArg Prod.fst e0
  have es0 := congrArg Prod.snd e0
  have ev1 := congrArg Prod.fst e1
  have es1 := congrArg Prod.snd e1
  dsimp only at ev0 es0 ev1 es1
  subst es0
  subst es1
  subst ev0
  have ez : z.1 = q.1 := Value.int.inj ev1
  rw [ha 1 (by decide), ha 2 (by decide), ha 3 (by decide), ha 4 (by decide), ha 5 (by decide)] at g0 g1
  refine lx_ax hC (lx_dec (e := (368, .aload_n 1, 1, 0)) lx_r3_ok (List.mem_of_getElem? (i := 10) rfl)) ?_
  refine lx_arg hC (j := nI 1) (lx_dec (e := (369, .aload_n 0, 1, 0)) lx_r3_ok (List.mem_of_getElem? (i := 11) rfl)) (lx_dec (e := (370, .iload_n 3, 1, 0)) lx_r3_ok (List.mem_of_getElem? (i := 12) rfl)) (lx_dec (e := (371, .iconst 1, 1, 0)) lx_r3_ok (List.mem_of_getElem? (i := 13) rfl)) (by decide) (lx_dec (e := (372, .iadd, 1, 0)) lx_r3_ok (List.mem_of_getElem? (i := 14) rfl)) (lx_dec (e := (373, .iaload, 1, 0)) lx_r3_ok (List.mem_of_getElem? (i := 15) rfl)) (hin _ (by decide) (by decide)) ?_
  refine lx_arg hC (j := nI 2) (lx_dec (e := (374, .aload_n 0, 1, 0)) lx_r3_ok (List.mem_of_getElem? (i := 16) rfl)) (lx_dec (e := (375, .iload_n 3, 1, 0)) lx_r3_ok (List.mem_of_getElem? (i := 17) rfl)) (lx_dec (e := (376, .iconst 2, 1, 0)) lx_r3_ok (List.mem_of_getElem? (i := 18) rfl)) (by decide) (lx_dec (e := (377, .iadd, 1, 0)) lx_r3_ok (List.mem_of_getElem? (i := 19) rfl)) (lx_dec (e := (378, .iaload, 1, 0)) lx_r3_ok (List.mem_of_getElem? (i := 20) rfl)) (hin _ (by decide) (by decide)) ?_
  refine lx_arg hC (j := nI 3) (lx_dec (e := (379, .aload_n 0, 1, 0)) lx_r3_ok (List.mem_of_getElem? (i := 21) rfl)) (lx_dec (e := (380, .iload_n 3, 1, 0)) lx_r3_ok (List.mem_of_getElem? (i := 22) rfl)) (lx_dec (e := (381, .iconst 3, 1, 0)) lx_r3_ok (List.mem_of_getElem? (i := 23) rfl)) (by decide) (lx_dec (e := (382, .iadd, 1, 0)) lx_r3_ok (List.mem_of_getElem? (i := 24) rfl)) (lx_dec (e := (383, .iaload, 1, 0)) lx_r3_ok (List.mem_of_getElem? (i := 25) rfl)) (hin _ (by decide) (by decide)) ?_
  refine lx_arg hC (j := nI 4) (lx_dec (e := (384, .aload_n 0, 1, 0)) lx_r3_ok (List.mem_of_getElem? (i := 26) rfl)) (lx_dec (e := (385, .iload_n 3, 1, 0)) lx_r3_ok (List.mem_of_getElem? (i := 27) rfl)) (lx_dec (e := (386, .iconst 4, 1, 0)) lx_r3_ok (List.mem_of_getElem? (i := 28) rfl)) (by decide) (lx_dec (e := (387, .iadd, 1, 0)) lx_r3_ok (List.mem_of_getElem? (i := 29) rfl)) (lx_dec (e := (388, .iaload, 1, 0)) lx_r3_ok (List.mem_of_getElem? (i := 30) rfl)) (hin _ (by decide) (by decide)) ?_
  refine lx_arg hC (j := nI 5) (lx_dec (e := (389, .aload_n 0, 1, 0)) lx_r3_ok (List.mem_of_getElem? (i := 31) rfl)) (lx_dec (e := (390, .iload_n 3, 1, 0)) lx_r3_ok (List.mem_of_getElem? (i := 32) rfl)) (lx_dec (e := (391, .iconst 5, 1, 0)) lx_r3_ok (List.mem_of_getElem? (i := 33) rfl)) (by decide) (lx_dec (e := (392, .iadd, 1, 0)) lx_r3_ok (List.mem_of_getElem? (i := 34) rfl)) (lx_dec (e := (393, .iaload, 1, 0)) lx_r3_ok (List.mem_of_getElem? (i := 35) rfl)) (hin _ (by decide) (by decide)) ?_
  refine lx_c0 hC (Mt := mX9_copy) [xs (i + nI 1).toNatClampNeg, xs (i + nI 2).toNatClampNeg, xs (i + nI 3).toNatClampNeg, xs (i + nI 4).toNatClampNeg, xs (i + nI 5).toNatClampNeg] (v := .int q.1) (lx_dec (e := (394, .invokevirtual 32, 3, 0)) lx_r3_ok (List.mem_of_getElem? (i := 36) rfl)) (List.mem_of_getElem? (i := 403) (by decide +kernel)) mw_X9_copy rfl rfl rfl (by decide) (d := 2) (by decide) (fun _ => rfl) (ok_X9_copy 0 (xs (i + nI 1).toNatClampNeg) (xs (i + nI 2).toNatClampNeg) (xs (i + nI 3).toNatClampNeg) (xs (i + nI 4).toNatClampNeg) (xs (i + nI 5).toNatClampNeg) σ q g0) ?_
  refine lx_am hC (lx_dec (e := (397, .aload_n 2, 1, 0)) lx_r3_ok (List.mem_of_getElem? (i := 37) rfl)) ?_
  refine lx_arg hC (j := nI 1) (lx_dec (e := (398, .aload_n 0, 1, 0)) lx_r3_ok (List.mem_of_getElem? (i := 38) rfl)) (lx_dec (e := (399, .iload_n 3, 1, 0)) lx_r3_ok (List.mem_of_getElem? (i := 39) rfl)) (lx_dec (e := (400, .iconst 1, 1, 0)) lx_r4_ok (List.mem_of_getElem? (i := 0) rfl)) (by decide) (lx_dec (e := (401, .iadd, 1, 0)) lx_r4_ok (List.mem_of_getElem? (i := 1) rfl)) (lx_dec (e := (402, .iaload, 1, 0)) lx_r4_ok (List.mem_of_getElem? (i := 2) rfl)) (hin _ (by decide) (by decide)) ?_
  refine lx_arg hC (j := nI 2) (lx_dec (e := (403, .aload_n 0, 1, 0)) lx_r4_ok (List.mem_of_getElem? (i := 3) rfl)) (lx_dec (e := (404, .iload_n 3, 1, 0)) lx_r4_ok (List.mem_of_getElem? (i := 4) rfl)) (lx_dec (e := (405, .iconst 2, 1, 0)) lx_r4_ok (List.mem_of_getElem? (i := 5) rfl)) (by decide) (lx_dec (e := (406, .iadd, 1, 0)) lx_r4_ok (List.mem_of_getElem? (i := 6) rfl)) (lx_dec (e := (407, .iaload, 1, 0)) lx_r4_ok (List.mem_of_getElem? (i := 7) rfl)) (hin _ (by decide) (by decide)) ?_
  refine lx_arg hC (j := nI 3) (lx_dec (e := (408, .aload_n 0, 1, 0)) lx_r4_ok (List.mem_of_getElem? (i := 8) rfl)) (lx_dec (e := (409, .iload_n 3, 1, 0)) lx_r4_ok (List.mem_of_getElem? (i := 9) rfl)) (lx_dec (e := (410, .iconst 3, 1, 0)) lx_r4_ok (List.mem_of_getElem? (i := 10) rfl)) (by decide) (lx_dec (e := (411, .iadd, 1, 0)) lx_r4_ok (List.mem_of_getElem? (i := 11) rfl)) (lx_dec (e := (412, .iaload, 1, 0)) lx_r4_ok (List.mem_of_getElem? (i := 12) rfl)) (hin _ (by decide) (by decide)) ?_
  refine lx_arg hC (j := nI 4) (lx_dec (e := (413, .aload_n 0, 1, 0)) lx_r4_ok (List.mem_of_getElem? (i := 13) rfl)) (lx_dec (e := (414, .iload_n 3, 1, 0)) lx_r4_ok (List.mem_of_getElem? (i := 14) rfl)) (lx_dec (e := (415, .iconst 4, 1, 0)) lx_r4_ok (List.mem_of_getElem? (i := 15) rfl)) (by decide) (lx_dec (e := (416, .iadd, 1, 0)) lx_r4_ok (List.mem_of_getElem? (i := 16) rfl)) (lx_dec (e := (417, .iaload, 1, 0)) lx_r4_ok (List.mem_of_getElem? (i := 17) rfl)) (hin _ (by decide) (by decide)) ?_
  refine lx_arg hC (j := nI 5) (lx_dec (e := (418, .aload_n 0, 1, 0)) lx_r4_ok (List.mem_of_getElem? (i := 18) rfl)) (lx_dec (e := (419, .iload_n 3, 1, 0)) lx_r4_ok (List.mem_of_getElem? (i := 19) rfl)) (lx_dec (e := (420, .iconst 5, 1, 0)) lx_r4_ok (List.mem_of_getElem? (i := 20) rfl)) (by decide) (lx_dec (e := (421, .iadd, 1, 0)) lx_r4_ok (List.mem_of_getElem? (i := 21) rfl)) (lx_dec (e := (422, .iaload, 1, 0)) lx_r4_ok (List.mem_of_getElem? (i := 22) rfl)) (hin _ (by decide) (by decide)) ?_
  refine lx_c1 hC (Mt := mX10_copy) [xs (i + nI 1).toNatClampNeg, xs (i + nI 2).toNatClampNeg, xs (i + nI 3).toNatClampNeg, xs (i + nI 4).toNatClampNeg, xs (i + nI 5).toNatClampNeg] (v := .int z.1) (rest := [.int q.1]) (lx_dec (e := (423, .invokevirtual 36, 3, 0)) lx_r4_ok (List.mem_of_getElem? (i := 23) rfl)) (List.mem_of_getElem? (i := 1130) (by decide +kernel)) mw_X10_copy rfl rfl rfl (Nat.le_of_ble_eq_true rfl) (d := 2) (by decide) (fun _ => rfl) (ok_X10_copy 0 (xs (i + nI 1).toNatClampNeg) (xs (i + nI 2).toNatClampNeg) (xs (i + nI 3).toNatClampNeg) (xs (i + nI 4).toNatClampNeg) (xs (i + nI 5).toNatClampNeg) τ z g1) ?_
  rw [ez]
  exact lx_eq hC (lx_dec (e := (426, .if_icmp .eq 1064, 3, 0)) lx_r4_ok (List.mem_of_getElem? (i := 24) rfl)) (by decide) k
set_option maxHeartbeats 1000000 in
theorem lx_k5 {p : Program} {l : Launch} {e : Env} {s : State} {m : MethodId} {below : List Frame} {meth : Method} {c : Code} {b L : Nat} {xs : Nat → Int32} {D : va_G} {ca : Nat → ClassId} {ad0 ad1 : Nat → Nat} {tk : Nat} (hC : lx_C p s m meth c b L xs D ca ad0 ad1 tk) {i : Int32} {σ τ σ1 τ1 : rf_S} {v : Value} (hin : ∀ j : Int32, 0 < j → j ≤ 5 → vp_in (i + j) L) (a : Nat → Int32) (ha : ∀ j : Nat, j < 6 → a j = xs (i + nI j).toNatClampNeg) (h0 : opC 5 a σ = some (v, σ1)) (h1 : opM 5 a τ = some (v, τ1)) (k : lx_W p l e s m below meth c b D ca ad0 ad1 1490 i [] σ1 τ1) : lx_W p l e s m below meth c b D ca ad0 ad1 431 i [] σ τ := by
  have h0 : (f_X9_mean (a 1) σ).map (fun q => (Value.int q.1, q.2)) = some (v, σ1) := h0
  have h1 : (f_X10_mean (a 1) τ).map (fun q => (Value.int q.1, q.2)) = some (v, τ1) := h1
  obtain ⟨q, g0, e0⟩ := Option.map_eq_some_iff.mp h0
  obtain ⟨z, g1, e1⟩ := Option.map_eq_some_iff.mp h1
  have ev0 := congrArg Prod.fst e0
  have es0 := congrArg Prod.snd e0
  have ev1 := congrArg Prod.fst e1
  have es1 := congrArg Prod.snd e1
  dsimp only at ev0 es0 ev1 es1
  subst es0
  subst es1
  subst ev0
  have ez : z.1 = q.1 := Value.int.inj ev1
  rw [ha 1 (by decide)] at g0 g1
  refine lx_ax hC (lx_dec (e := (431, .aload_n 1, 1, 0)) lx_r4_ok (List.mem_of_getElem? (i := 27) rfl)) ?_
  refine lx_arg hC (j := nI 1) (lx_dec (e := (432, .aload_n 0, 1, 0)) lx_r4_ok (List.mem_of_getElem? (i := 28) rfl)) (lx_dec (e := (433, .iload_n 3, 1, 0)) lx_r4_ok (List.mem_of_getElem? (i := 29) rfl)) (lx_dec (e := (434, .iconst 1, 1, 0)) lx_r4_ok (List.mem_of_getElem? (i := 30) rfl)) (by decide) (lx_dec (e := (435, .iadd, 1, 0)) lx_r4_ok (List.mem_of_getElem? (i := 31) rfl)) (lx_dec (e := (436, .iaload, 1, 0)) lx_r4_ok (List.mem_of_getElem? (i := 32) rfl)) (hin _ (by decide) (by decide)) ?_
  refine lx_c0 hC (Mt := mX9_mean) [xs (i + nI 1).toNatClampNeg] (v := .int q.1) (lx_dec (e := (437, .invokevirtual 37, 3, 0)) lx_r4_ok (List.mem_of_getElem? (i := 33) rfl)) (List.mem_of_getElem? (i := 418) (by decide +kernel)) mw_X9_mean rfl rfl rfl (by decide) (d := 3) (by decide) (fun _ => rfl) (ok_X9_mean 0 (xs (i + nI 1).toNatClampNeg) σ q g0) ?_
  refine lx_am hC (lx_dec (e := (440, .aload_n 2, 1, 0)) lx_r4_ok (List.mem_of_getElem? (i := 34) rfl)) ?_
  refine lx_arg hC (j := nI 1) (lx_dec (e := (441, .aload_n 0, 1, 0)) lx_r4_ok (List.mem_of_getElem? (i := 35) rfl)) (lx_dec (e := (442, .iload_n 3, 1, 0)) lx_r4_ok (List.mem_of_getElem? (i := 36) rfl)) (lx_dec (e := (443, .iconst 1, 1, 0)) lx_r4_ok (List.mem_of_getElem? (i := 37) rfl)) (by decide) (lx_dec (e := (444, .iadd, 1, 0)) lx_r4_ok (List.mem_of_getElem? (i := 38) rfl)) (lx_dec (e := (445, .iaload, 1, 0)) lx_r4_ok (List.mem_of_getElem? (i := 39) rfl)) (hin _ (by decide) (by decide)) ?_
  refine lx_c1 hC (Mt := mX10_mean) [xs (i + nI 1).toNatClampNeg] (v := .int z.1) (rest := [.int q.1]) (lx_dec (e := (446, .invokevirtual 40, 3, 0)) lx_r5_ok (List.mem_of_getElem? (i := 0) rfl)) (List.mem_of_getElem? (i := 1137) (by decide +kernel)) mw_X10_mean rfl rfl rfl (Nat.le_of_ble_eq_true rfl) (d := 2) (by decide) (fun _ => rfl) (ok_X10_mean 0 (xs (i + nI 1).toNatClampNeg) τ z g1) ?_
  rw [ez]
  exact lx_eq hC (lx_dec (e := (449, .if_icmp .eq 1041, 3, 0)) lx_r5_ok (List.mem_of_getElem? (i := 1) rfl)) (by decide) k
set_option maxHeartbeats 1000000 in
theorem lx_k6 {p : Program} {l : Launch} {e : Env} {s : State} {m : MethodId} {below : List Frame} {meth : Method} {c : Code} {b L : Nat} {xs : Nat → Int32} {D : va_G} {ca : Nat → ClassId} {ad0 ad1 : Nat → Nat} {tk : Nat} (hC : lx_C p s m meth c b L xs D ca ad0 ad1 tk) {i : Int32} {σ τ σ1 τ1 : rf_S} {v : Value} (hin : ∀ j : Int32, 0 < j → j ≤ 5 → vp_in (i + j) L) (a : Nat → Int32) (ha : ∀ j : Nat, j < 6 → a j = xs (i + nI j).toNatClampNeg) (h0 : opC 6 a σ = some (v, σ1)) (h1 : opM 6 a τ = some (v, τ1)) (k : lx_W p l e s m below meth c b D ca ad0 ad1 1490 i [] σ1 τ1) : lx_W p l e s m below meth c b D ca ad0 ad1 454 i [] σ τ := by
  have h0 : (f_X9_text (a 1) (a 2) σ).map (fun q => (Value.int q.1, q.2)) = some (v, σ1) := h0
  have h1 : (f_X10_text (a 1) (a 2) τ).map (fun q => (Value.int q.1, q.2)) = some (v, τ1) := h1
  obtain ⟨q, g0, e0⟩ := Option.map_eq_some_iff.mp h0
  obtain ⟨z, g1, e1⟩ := Option.map_eq_some_iff.mp h1
  have ev0 := congrArg Prod.fst e0
  have es0 := congrArg Prod.snd e0
  have ev1 := congrArg Prod.fst e1
  have es1 := congrArg Prod.snd e1
  dsimp only at ev0 es0 ev1 es1
  subst es0
  subst es1
  subst ev0
  have ez : z.1 = q.1 := Value.int.inj ev1
  rw [ha 1 (by decide), ha 2 (by decide)] at g0 g1
  refine lx_ax hC (lx_dec (e := (454, .aload_n 1, 1, 0)) lx_r5_ok (List.mem_of_getElem? (i := 4) rfl)) ?_
  refine lx_arg hC (j := nI 1) (lx_dec (e := (455, .aload_n 0, 1, 0)) lx_r5_ok (List.mem_of_getElem? (i := 5) rfl)) (lx_dec (e := (456, .iload_n 3, 1, 0)) lx_r5_ok (List.mem_of_getElem? (i := 6) rfl)) (lx_dec (e := (457, .iconst 1, 1, 0)) lx_r5_ok (List.mem_of_getElem? (i := 7) rfl)) (by decide) (lx_dec (e := (458, .iadd, 1, 0)) lx_r5_ok (List.mem_of_getElem? (i := 8) rfl)) (lx_dec (e := (459, .iaload, 1, 0)) lx_r5_ok (List.mem_of_getElem? (i := 9) rfl)) (hin _ (by decide) (by decide)) ?_
  refine lx_arg hC (j := nI 2) (lx_dec (e := (460, .aload_n 0, 1, 0)) lx_r5_ok (List.mem_of_getElem? (i := 10) rfl)) (lx_dec (e := (461, .iload_n 3, 1, 0)) lx_r5_ok (List.mem_of_getElem? (i := 11) rfl)) (lx_dec (e := (462, .iconst 2, 1, 0)) lx_r5_ok (List.mem_of_getElem? (i := 12) rfl)) (by decide) (lx_dec (e := (463, .iadd, 1, 0)) lx_r5_ok (List.mem_of_getElem? (i := 13) rfl)) (lx_dec (e := (464, .iaload, 1, 0)) lx_r5_ok (List.mem_of_getElem? (i := 14) rfl)) (hin _ (by decide) (by decide)) ?_
  refine lx_c0 hC (Mt := mX9_text) [xs (i + nI 1).toNatClampNeg, xs (i + nI 2).toNatClampNeg] (v := .int q.1) (lx_dec (e := (465, .invokevirtual 41, 3, 0)) lx_r5_ok (List.mem_of_getElem? (i := 15) rfl)) (List.mem_of_getElem? (i := 430) (by decide +kernel)) mw_X9_text rfl rfl rfl (by decide) (d := 3) (by decide) (fun _ => rfl) (ok_X9_text 0 (xs (i + nI 1).toNatClampNeg) (xs (i + nI 2).toNatClampNeg) σ q g0) ?_
  refine lx_am hC (lx_dec (e := (468, .aload_n 2, 1, 0)) lx_r5_ok (List.mem_of_getElem? (i := 16) rfl)) ?_
  refine lx_arg hC (j := nI 1) (lx_dec (e := (469, .aload_n 0, 1, 0)) lx_r5_ok (List.mem_of_getElem? (i := 17) rfl)) (lx_dec (e := (470, .iload_n 3, 1, 0)) lx_r5_ok (List.mem_of_getElem? (i := 18) rfl)) (lx_dec (e := (471, .iconst 1, 1, 0)) lx_r5_ok (List.mem_of_getElem? (i := 19) rfl)) (by decide) (lx_dec (e := (472, .iadd, 1, 0)) lx_r5_ok (List.mem_of_getElem? (i := 20) rfl)) (lx_dec (e := (473, .iaload, 1, 0)) lx_r5_ok (List.mem_of_getElem? (i := 21) rfl)) (hin _ (by decide) (by decide)) ?_
  refine lx_arg hC (j := nI 2) (lx_dec (e := (474, .aload_n 0, 1, 0)) lx_r5_ok (List.mem_of_getElem? (i := 22) rfl)) (lx_dec (e := (475, .iload_n 3, 1, 0)) lx_r5_ok (List.mem_of_getElem? (i := 23) rfl)) (lx_dec (e := (476, .iconst 2, 1, 0)) lx_r5_ok (List.mem_of_getElem? (i := 24) rfl)) (by decide) (lx_dec (e := (477, .iadd, 1, 0)) lx_r5_ok (List.mem_of_getElem? (i := 25) rfl)) (lx_dec (e := (478, .iaload, 1, 0)) lx_r5_ok (List.mem_of_getElem? (i := 26) rfl)) (hin _ (by decide) (by decide)) ?_
  refine lx_c1 hC (Mt := mX10_text) [xs (i + nI 1).toNatClampNeg, xs (i + nI 2).toNatClampNeg] (v := .int z.1) (rest := [.int q.1]) (lx_dec (e := (479, .invokevirtual 44, 3, 0)) lx_r5_ok (List.mem_of_getElem? (i := 27) rfl)) (List.mem_of_getElem? (i := 1141) (by decide +kernel)) mw_X10_text rfl rfl rfl (Nat.le_of_ble_eq_true rfl) (d := 2) (by decide) (fun _ => rfl) (ok_X10_text 0 (xs (i + nI 1).toNatClampNeg) (xs (i + nI 2).toNatClampNeg) τ z g1) ?_
  rw [ez]
  exact lx_eq hC (lx_dec (e := (482, .if_icmp .eq 1008, 3, 0)) lx_r5_ok (List.mem_of_getElem? (i := 28) rfl)) (by decide) k
set_option maxHeartbeats 1000000 in
theorem lx_k7 {p : Program} {l : Launch} {e : Env} {s : State} {m : MethodId} {below : List Frame} {meth : Method} {c : Code} {b L : Nat} {xs : Nat → Int32} {D : va_G} {ca : Nat → ClassId} {ad0 ad1 : Nat → Nat} {tk : Nat} (hC : lx_C p s m meth c b L xs D ca ad0 ad1 tk) {i : Int32} {σ τ σ1 τ1 : rf_S} {v : Value} (hin : ∀ j : Int32, 0 < j → j ≤ 5 → vp_in (i + j) L) (a : Nat → Int32) (ha : ∀ j : Nat, j < 6 → a j = xs (i + nI j).toNatClampNeg) (h0 : opC 7 a σ = some (v, σ1)) (h1 : opM 7 a τ = some (v, τ1)) (k : lx_W p l e s m below meth c b D ca ad0 ad1 1490 i [] σ1 τ1) : lx_W p l e s m below meth c b D ca ad0 ad1 487 i [] σ τ := by
  have h0 : (f_X9_put (a 1) (a 2) (a 3) σ).map (fun q => (Value.int q.1, q.2)) = some (v, σ1) := h0
  have h1 : (f_X10_put (a 1) (a 2) (a 3) τ).map (fun q => (Value.int q.1, q.2)) = some (v, τ1) := h1
  obtain ⟨q, g0, e0⟩ := Option.map_eq_some_iff.mp h0
  obtain ⟨z, g1, e1⟩ := Option.map_eq_some_iff.mp h1
  have ev0 := congrArg Prod.fst e0
  have es0 := congrArg Prod.snd e0
  have ev1 := congrArg Prod.fst e1
  have es1 := congrArg Prod.snd e1
  dsimp only at ev0 es0 ev1 es1
  subst es0
  subst es1
  subst ev0
  have ez : z.1 = q.1 := Value.int.inj ev1
  rw [ha 1 (by decide), ha 2 (by decide), ha 3 (by decide)] at g0 g1
  refine lx_ax hC (lx_dec (e := (487, .aload_n 1, 1, 0)) lx_r5_ok (List.mem_of_getElem? (i := 31) rfl)) ?_
  refine lx_arg hC (j := nI 1) (lx_dec (e := (488, .aload_n 0, 1, 0)) lx_r5_ok (List.mem_of_getElem? (i := 32) rfl)) (lx_dec (e := (489, .iload_n 3, 1, 0)) lx_r5_ok (List.mem_of_getElem? (i := 33) rfl)) (lx_dec (e := (490, .iconst 1, 1, 0)) lx_r5_ok (List.mem_of_getElem? (i := 34) rfl)) (by decide) (lx_dec (e := (491, .iadd, 1, 0)) lx_r5_ok (List.mem_of_getElem? (i := 35) rfl)) (lx_dec (e := (492, .iaload, 1, 0)) lx_r5_ok (List.mem_of_getElem? (i := 36) rfl)) (hin _ (by decide) (by decide)) ?_
  refine lx_arg hC (j := nI 2) (lx_dec (e := (493, .aload_n 0, 1, 0)) lx_r5_ok (List.mem_of_getElem? (i := 37) rfl)) (lx_dec (e := (494, .iload_n 3, 1, 0)) lx_r5_ok (List.mem_of_getElem? (i := 38) rfl)) (lx_dec (e := (495, .iconst 2, 1, 0)) lx_r5_ok (List.mem_of_getElem? (i := 39) rfl)) (by decide) (lx_dec (e := (496, .iadd, 1, 0)) lx_r6_ok (List.mem_of_getElem? (i := 0) rfl)) (lx_dec (e := (497, .iaload, 1, 0)) lx_r6_ok (List.mem_of_getElem? (i := 1) rfl)) (hin _ (by decide) (by decide)) ?_
  refine lx_arg hC (j := nI 3) (lx_dec (e := (498, .aload_n 0, 1, 0)) lx_r6_ok (List.mem_of_getElem? (i := 2) rfl)) (lx_dec (e := (499, .iload_n 3, 1, 0)) lx_r6_ok (List.mem_of_getElem? (i := 3) rfl)) (lx_dec (e := (500, .iconst 3, 1, 0)) lx_r6_ok (List.mem_of_getElem? (i := 4) rfl)) (by decide) (lx_dec (e := (501, .iadd, 1, 0)) lx_r6_ok (List.mem_of_getElem? (i := 5) rfl)) (lx_dec (e := (502, .iaload, 1, 0)) lx_r6_ok (List.mem_of_getElem? (i := 6) rfl)) (hin _ (by decide) (by decide)) ?_
  refine lx_c0 hC (Mt := mX9_put) [xs (i + nI 1).toNatClampNeg, xs (i + nI 2).toNatClampNeg, xs (i + nI 3).toNatClampNeg] (v := .int q.1) (lx_dec (e := (503, .invokevirtual 45, 3, 0)) lx_r6_ok (List.mem_of_getElem? (i := 7) rfl)) (List.mem_of_getElem? (i := 444) (by decide +kernel)) mw_X9_put rfl rfl rfl (by decide) (d := 3) (by decide) (fun _ => rfl) (ok_X9_put 0 (xs (i + nI 1).toNatClampNeg) (xs (i + nI 2).toNatClampNeg) (xs (i + nI 3).toNatClampNeg) σ q g0) ?_
  refine lx_am hC (lx_dec (e := (506, .aload_n 2, 1, 0)) lx_r6_ok (List.mem_of_getElem? (i := 8) rfl)) ?_
  refine lx_arg hC (j := nI 1) (lx_dec (e := (507, .aload_n 0, 1, 0)) lx_r6_ok (List.mem_of_getElem? (i := 9) rfl)) (lx_dec (e := (508, .iload_n 3, 1, 0)) lx_r6_ok (List.mem_of_getElem? (i := 10) rfl)) (lx_dec (e := (509, .iconst 1, 1, 0)) lx_r6_ok (List.mem_of_getElem? (i := 11) rfl)) (by decide) (lx_dec (e := (510, .iadd, 1, 0)) lx_r6_ok (List.mem_of_getElem? (i := 12) rfl)) (lx_dec (e := (511, .iaload, 1, 0)) lx_r6_ok (List.mem_of_getElem? (i := 13) rfl)) (hin _ (by decide) (by decide)) ?_
  refine lx_arg hC (j := nI 2) (lx_dec (e := (512, .aload_n 0, 1, 0)) lx_r6_ok (List.mem_of_getElem? (i := 14) rfl)) (lx_dec (e := (513, .iload_n 3, 1, 0)) lx_r6_ok (List.mem_of_getElem? (i := 15) rfl)) (lx_dec (e := (514, .iconst 2, 1, 0)) lx_r6_ok (List.mem_of_getElem? (i := 16) rfl)) (by decide) (lx_dec (e := (515, .iadd, 1, 0)) lx_r6_ok (List.mem_of_getElem? (i := 17) rfl)) (lx_dec (e := (516, .iaload, 1, 0)) lx_r6_ok (List.mem_of_getElem? (i := 18) rfl)) (hin _ (by decide) (by decide)) ?_
  refine lx_arg hC (j := nI 3) (lx_dec (e := (517, .aload_n 0, 1, 0)) lx_r6_ok (List.mem_of_getElem? (i := 19) rfl)) (lx_dec (e := (518, .iload_n 3, 1, 0)) lx_r6_ok (List.mem_of_getElem? (i := 20) rfl)) (lx_dec (e := (519, .iconst 3, 1, 0)) lx_r6_ok (List.mem_of_getElem? (i := 21) rfl)) (by decide) (lx_dec (e := (520, .iadd, 1, 0)) lx_r6_ok (List.mem_of_getElem? (i := 22) rfl)) (lx_dec (e := (521, .iaload, 1, 0)) lx_r6_ok (List.mem_of_getElem? (i := 23) rfl)) (hin _ (by decide) (by decide)) ?_
  refine lx_c1 hC (Mt := mX10_put) [xs (i + nI 1).toNatClampNeg, xs (i + nI 2).toNatClampNeg, xs (i + nI 3).toNatClampNeg] (v := .int z.1) (rest := [.int q.1]) (lx_dec (e := (522, .invokevirtual 48, 3, 0)) lx_r6_ok (List.mem_of_getElem? (i := 24) rfl)) (List.mem_of_getElem? (i := 1145) (by decide +kernel)) mw_X10_put rfl rfl rfl (Nat.le_of_ble_eq_true rfl) (d := 2) (by decide) (fun _ => rfl) (ok_X10_put 0 (xs (i + nI 1).toNatClampNeg) (xs (i + nI 2).toNatClampNeg) (xs (i + nI 3).toNatClampNeg) τ z g1) ?_
  rw [ez]
  exact lx_eq hC (lx_dec (e := (525, .if_icmp .eq 965, 3, 0)) lx_r6_ok (List.mem_of_getElem? (i := 25) rfl)) (by decide) k
set_option maxHeartbeats 1000000 in
theorem lx_k8 {p : Program} {l : Launch} {e : Env} {s : State} {m : MethodId} {below : List Frame} {meth : Method} {c : Code} {b L : Nat} {xs : Nat → Int32} {D : va_G} {ca : Nat → ClassId} {ad0 ad1 : Nat → Nat} {tk : Nat} (hC : lx_C p s m meth c b L xs D ca ad0 ad1 tk) {i : Int32} {σ τ σ1 τ1 : rf_S} {v : Value} (hin : ∀ j : Int32, 0 < j → j ≤ 5 → vp_in (i + j) L) (a : Nat → Int32) (ha : ∀ j : Nat, j < 6 → a j = xs (i + nI j).toNatClampNeg) (h0 : opC 8 a σ = some (v, σ1)) (h1 : opM 8 a τ = some (v, τ1)) (k : lx_W p l e s m below meth c b D ca ad0 ad1 1490 i [] σ1 τ1) : lx_W p l e s m below meth c b D ca ad0 ad1 530 i [] σ τ := by
  have h0 : (f_X9_fault (a 1) σ).map (fun q => (Value.int q.1, q.2)) = some (v, σ1) := h0
  have h1 : (f_X10_fault (a 1) τ).map (fun q => (Value.int q.1, q.2)) = some (v, τ1) := h1
  obtain ⟨q, g0, e0⟩ := Option.map_eq_some_iff.mp h0
  obtain ⟨z, g1, e1⟩ := Option.map_eq_some_iff.mp h1
  have ev0 := congrArg Prod.fst e0
  have es0 := congrArg Prod.snd e0
  have ev1 := congrArg Prod.fst e1
  have es1 := congrArg Prod.snd e1
  dsimp only at ev0 es0 ev1 es1
  subst es0
  subst es1
  subst ev0
  have ez : z.1 = q.1 := Value.int.inj ev1
  rw [ha 1 (by decide)] at g0 g1
  refine lx_ax hC (lx_dec (e := (530, .aload_n 1, 1, 0)) lx_r6_ok (List.mem_of_getElem? (i := 28) rfl)) ?_
  refine lx_arg hC (j := nI 1) (lx_dec (e := (531, .aload_n 0, 1, 0)) lx_r6_ok (List.mem_of_getElem? (i := 29) rfl)) (lx_dec (e := (532, .iload_n 3, 1, 0)) lx_r6_ok (List.mem_of_getElem? (i := 30) rfl)) (lx_dec (e := (533, .iconst 1, 1, 0)) lx_r6_ok (List.mem_of_getElem? (i := 31) rfl)) (by decide) (lx_dec (e := (534, .iadd, 1, 0)) lx_r6_ok (List.mem_of_getElem? (i := 32) rfl)) (lx_dec (e := (535, .iaload, 1, 0)) lx_r6_ok (List.mem_of_getElem? (i := 33) rfl)) (hin _ (by decide) (by decide)) ?_
  refine lx_c0 hC (Mt := mX9_fault) [xs (i + nI 1).toNatClampNeg] (v := .int q.1) (lx_dec (e := (536, .invokevirtual 49, 3, 0)) lx_r6_ok (List.mem_of_getElem? (i := 34) rfl)) (List.mem_of_getElem? (i := 468) (by decide +kernel)) mw_X9_fault rfl rfl rfl (by decide) (d := 6) (by decide) (fun _ => rfl) (ok_X9_fault 0 (xs (i + nI 1).toNatClampNeg) σ q g0) ?_
  refine lx_am hC (lx_dec (e := (539, .aload_n 2, 1, 0)) lx_r6_ok (List.mem_of_getElem? (i := 35) rfl)) ?_
  refine lx_arg hC (j := nI 1) (lx_dec (e := (540, .aload_n 0, 1, 0)) lx_r6_ok (List.mem_of_getElem? (i := 36) rfl)) (lx_dec (e := (541, .iload_n 3, 1, 0)) lx_r6_ok (List.mem_of_getElem? (i := 37) rfl)) (lx_dec (e := (542, .iconst 1, 1, 0)) lx_r6_ok (List.mem_of_getElem? (i := 38) rfl)) (by decide) (lx_dec (e := (543, .iadd, 1, 0)) lx_r6_ok (List.mem_of_getElem? (i := 39) rfl)) (lx_dec (e := (544, .iaload, 1, 0)) lx_r7_ok (List.mem_of_getElem? (i := 0) rfl)) (hin _ (by decide) (by decide)) ?_
  refine lx_c1 hC (Mt := mX10_fault) [xs (i + nI 1).toNatClampNeg] (v := .int z.1) (rest := [.int q.1]) (lx_dec (e := (545, .invokevirtual 52, 3, 0)) lx_r7_ok (List.mem_of_getElem? (i := 1) rfl)) (List.mem_of_getElem? (i := 1149) (by decide +kernel)) mw_X10_fault rfl rfl rfl (Nat.le_of_ble_eq_true rfl) (d := 6) (by decide) (fun _ => rfl) (ok_X10_fault 0 (xs (i + nI 1).toNatClampNeg) τ z g1) ?_
  rw [ez]
  exact lx_eq hC (lx_dec (e := (548, .if_icmp .eq 942, 3, 0)) lx_r7_ok (List.mem_of_getElem? (i := 2) rfl)) (by decide) k
set_option maxHeartbeats 1000000 in
theorem lx_k9 {p : Program} {l : Launch} {e : Env} {s : State} {m : MethodId} {below : List Frame} {meth : Method} {c : Code} {b L : Nat} {xs : Nat → Int32} {D : va_G} {ca : Nat → ClassId} {ad0 ad1 : Nat → Nat} {tk : Nat} (hC : lx_C p s m meth c b L xs D ca ad0 ad1 tk) {i : Int32} {σ τ σ1 τ1 : rf_S} {v : Value} (hin : ∀ j : Int32, 0 < j → j ≤ 5 → vp_in (i + j) L) (a : Nat → Int32) (ha : ∀ j : Nat, j < 6 → a j = xs (i + nI j).toNatClampNeg) (h0 : opC 9 a σ = some (v, σ1)) (h1 : opM 9 a τ = some (v, τ1)) (k : lx_W p l e s m below meth c b D ca ad0 ad1 1490 i [] σ1 τ1) : lx_W p l e s m below meth c b D ca ad0 ad1 553 i [] σ τ := by
  have h0 : (f_X9_town (a 1) σ).map (fun q => (Value.int q.1, q.2)) = some (v, σ1) := h0
  have h1 : (f_X10_town (a 1) τ).map (fun q => (Value.int q.1, q.2)) = some (v, τ1) := h1
  obtain ⟨q, g0, e0⟩ := Option.map_eq_some_iff.mp h0
  obtain ⟨z, g1, e1⟩ := Option.map_eq_some_iff.mp h1
  have ev0 := congrArg Prod.fst e0
  have es0 := congrArg Prod.snd e0
  have ev1 := congrArg Prod.fst e1
  have es1 := congrArg Prod.snd e1
  dsimp only at ev0 es0 ev1 es1
  subst es0
  subst es1
  subst ev0
  have ez : z.1 = q.1 := Value.int.inj ev1
  rw [ha 1 (by decide)] at g0 g1
  refine lx_ax hC (lx_dec (e := (553, .aload_n 1, 1, 0)) lx_r7_ok (List.mem_of_getElem? (i := 5) rfl)) ?_
  refine lx_arg hC (j := nI 1) (lx_dec (e := (554, .aload_n 0, 1, 0)) lx_r7_ok (List.mem_of_getElem? (i := 6) rfl)) (lx_dec (e := (555, .iload_n 3, 1, 0)) lx_r7_ok (List.mem_of_getElem? (i := 7) rfl)) (lx_dec (e := (556, .iconst 1, 1, 0)) lx_r7_ok (List.mem_of_getElem? (i := 8) rfl)) (by decide) (lx_dec (e := (557, .iadd, 1, 0)) lx_r7_ok (List.mem_of_getElem? (i := 9) rfl)) (lx_dec (e := (558, .iaload, 1, 0)) lx_r7_ok (List.mem_of_getElem? (i := 10) rfl)) (hin _ (by decide) (by decide)) ?_
  refine lx_c0 hC (Mt := mX9_town) [xs (i + nI 1).toNatClampNeg] (v := .int q.1) (lx_dec (e := (559, .invokevirtual 53, 3, 0)) lx_r7_ok (List.mem_of_getElem? (i := 11) rfl)) (List.mem_of_getElem? (i := 529) (by decide +kernel)) mw_X9_town rfl rfl rfl (by decide) (d := 6) (by decide) (fun _ => rfl) (ok_X9_town 0 (xs (i + nI 1).toNatClampNeg) σ q g0) ?_
  refine lx_am hC (lx_dec (e := (562, .aload_n 2, 1, 0)) lx_r7_ok (List.mem_of_getElem? (i := 12) rfl)) ?_
  refine lx_arg hC (j := nI 1) (lx_dec (e := (563, .aload_n 0, 1, 0)) lx_r7_ok (List.mem_of_getElem? (i := 13) rfl)) (lx_dec (e := (564, .iload_n 3, 1, 0)) lx_r7_ok (List.mem_of_getElem? (i := 14) rfl)) (lx_dec (e := (565, .iconst 1, 1, 0)) lx_r7_ok (List.mem_of_getElem? (i := 15) rfl)) (by decide) (lx_dec (e := (566, .iadd, 1, 0)) lx_r7_ok (List.mem_of_getElem? (i := 16) rfl)) (lx_dec (e := (567, .iaload, 1, 0)) lx_r7_ok (List.mem_of_getElem? (i := 17) rfl)) (hin _ (by decide) (by decide)) ?_
  refine lx_c1 hC (Mt := mX10_town) [xs (i + nI 1).toNatClampNeg] (v := .int z.1) (rest := [.int q.1]) (lx_dec (e := (568, .invokevirtual 56, 3, 0)) lx_r7_ok (List.mem_of_getElem? (i := 18) rfl)) (List.mem_of_getElem? (i := 1188) (by decide +kernel)) mw_X10_town rfl rfl rfl (Nat.le_of_ble_eq_true rfl) (d := 6) (by decide) (fun _ => rfl) (ok_X10_town 0 (xs (i + nI 1).toNatClampNeg) τ z g1) ?_
  rw [ez]
  exact lx_eq hC (lx_dec (e := (571, .if_icmp .eq 919, 3, 0)) lx_r7_ok (List.mem_of_getElem? (i := 19) rfl)) (by decide) k
set_option maxHeartbeats 1000000 in
theorem lx_k10 {p : Program} {l : Launch} {e : Env} {s : State} {m : MethodId} {below : List Frame} {meth : Method} {c : Code} {b L : Nat} {xs : Nat → Int32} {D : va_G} {ca : Nat → ClassId} {ad0 ad1 : Nat → Nat} {tk : Nat} (hC : lx_C p s m meth c b L xs D ca ad0 ad1 tk) {i : Int32} {σ τ σ1 τ1 : rf_S} {v : Value} (hin : ∀ j : Int32, 0 < j → j ≤ 5 → vp_in (i + j) L) (a : Nat → Int32) (ha : ∀ j : Nat, j < 6 → a j = xs (i + nI j).toNatClampNeg) (h0 : opC 10 a σ = some (v, σ1)) (h1 : opM 10 a τ = some (v, τ1)) (k : lx_W p l e s m below meth c b D ca ad0 ad1 1490 i [] σ1 τ1) : lx_W p l e s m below meth c b D ca ad0 ad1 576 i [] σ τ := by
  have h0 : (f_X9_member (a 1) (a 2) σ).map (fun q => (Value.int q.1, q.2)) = some (v, σ1) := h0
  have h1 : (f_X10_member (a 1) (a 2) τ).map (fun q => (Value.int q.1, q.2)) = some (v, τ1) := h1
  obtain ⟨q, g0, e0⟩ := Option.map_eq_some_iff.mp h0
  obtain ⟨z, g1, e1⟩ := Option.map_eq_some_iff.mp h1
  have ev0 := congrArg Prod.fst e0
  have es0 := congrArg Prod.snd e0
  have ev1 := congrArg Prod.fst e1
  have es1 := congrArg Prod.snd e1
  dsimp only at ev0 es0 ev1 es1
  subst es0
  subst es1
  subst ev0
  have ez : z.1 = q.1 := Value.int.inj ev1
  rw [ha 1 (by decide), ha 2 (by decide)] at g0 g1
  refine lx_ax hC (lx_dec (e := (576, .aload_n 1, 1, 0)) lx_r7_ok (List.mem_of_getElem? (i := 22) rfl)) ?_
  refine lx_arg hC (j := nI 1) (lx_dec (e := (577, .aload_n 0, 1, 0)) lx_r7_ok (List.mem_of_getElem? (i := 23) rfl)) (lx_dec (e := (578, .iload_n 3, 1, 0)) lx_r7_ok (List.mem_of_getElem? (i := 24) rfl)) (lx_dec (e := (579, .iconst 1, 1, 0)) lx_r7_ok (List.mem_of_getElem? (i := 25) rfl)) (by decide) (lx_dec (e := (580, .iadd, 1, 0)) lx_r7_ok (List.mem_of_getElem? (i := 26) rfl)) (lx_dec (e := (581, .iaload, 1, 0)) lx_r7_ok (List.mem_of_getElem? (i := 27) rfl)) (hin _ (by decide) (by decide)) ?_
  refine lx_arg hC (j := nI 2) (lx_dec (e := (582, .aload_n 0, 1, 0)) lx_r7_ok (List.mem_of_getElem? (i := 28) rfl)) (lx_dec (e := (583, .iload_n 3, 1, 0)) lx_r7_ok (List.mem_of_getElem? (i := 29) rfl)) (lx_dec (e := (584, .iconst 2, 1, 0)) lx_r7_ok (List.mem_of_getElem? (i := 30) rfl)) (by decide) (lx_dec (e := (585, .iadd, 1, 0)) lx_r7_ok (List.mem_of_getElem? (i := 31) rfl)) (lx_dec (e := (586, .iaload, 1, 0)) lx_r7_ok (List.mem_of_getElem? (i := 32) rfl)) (hin _ (by decide) (by decide)) ?_
  refine lx_c0 hC (Mt := mX9_member) [xs (i + nI 1).toNatClampNeg, xs (i + nI 2).toNatClampNeg] (v := .int q.1) (lx_dec (e := (587, .invokevirtual 57, 3, 0)) lx_r7_ok (List.mem_of_getElem? (i := 33) rfl)) (List.mem_of_getElem? (i := 556) (by decide +kernel)) mw_X9_member rfl rfl rfl (by decide) (d := 6) (by decide) (fun _ => rfl) (ok_X9_member 0 (xs (i + nI 1).toNatClampNeg) (xs (i + nI 2).toNatClampNeg) σ q g0) ?_
  refine lx_am hC (lx_dec (e := (590, .aload_n 2, 1, 0)) lx_r7_ok (List.mem_of_getElem? (i := 34) rfl)) ?_
  refine lx_arg hC (j := nI 1) (lx_dec (e := (591, .aload_n 0, 1, 0)) lx_r7_ok (List.mem_of_getElem? (i := 35) rfl)) (lx_dec (e := (592, .iload_n 3, 1, 0)) lx_r7_ok (List.mem_of_getElem? (i := 36) rfl)) (lx_dec (e := (593, .iconst 1, 1, 0)) lx_r7_ok (List.mem_of_getElem? (i := 37) rfl)) (by decide) (lx_dec (e := (594, .iadd, 1, 0)) lx_r7_ok (List.mem_of_getElem? (i := 38) rfl)) (lx_dec (e := (595, .iaload, 1, 0)) lx_r7_ok (List.mem_of_getElem? (i := 39) rfl)) (hin _ (by decide) (by decide)) ?_
  refine lx_arg hC (j := nI 2) (lx_dec (e := (596, .aload_n 0, 1, 0)) lx_r8_ok (List.mem_of_getElem? (i := 0) rfl)) (lx_dec (e := (597, .iload_n 3, 1, 0)) lx_r8_ok (List.mem_of_getElem? (i := 1) rfl)) (lx_dec (e := (598, .iconst 2, 1, 0)) lx_r8_ok (List.mem_of_getElem? (i := 2) rfl)) (by decide) (lx_dec (e := (599, .iadd, 1, 0)) lx_r8_ok (List.mem_of_getElem? (i := 3) rfl)) (lx_dec (e := (600, .iaload, 1, 0)) lx_r8_ok (List.mem_of_getElem? (i := 4) rfl)) (hin _ (by decide) (by decide)) ?_
  refine lx_c1 hC (Mt := mX10_member) [xs (i + nI 1).toNatClampNeg, xs (i + nI 2).toNatClampNeg] (v := .int z.1) (rest := [.int q.1]) (lx_dec (e := (601, .invokevirtual 60, 3, 0)) lx_r8_ok (List.mem_of_getElem? (i := 5) rfl)) (List.mem_of_getElem? (i := 1192) (by decide +kernel)) mw_X10_member rfl rfl rfl (Nat.le_of_ble_eq_true rfl) (d := 7) (by decide) (fun _ => rfl) (ok_X10_member 0 (xs (i + nI 1).toNatClampNeg) (xs (i + nI 2).toNatClampNeg) τ z g1) ?_
  rw [ez]
  exact lx_eq hC (lx_dec (e := (604, .if_icmp .eq 886, 3, 0)) lx_r8_ok (List.mem_of_getElem? (i := 6) rfl)) (by decide) k
set_option maxHeartbeats 1000000 in
theorem lx_k11 {p : Program} {l : Launch} {e : Env} {s : State} {m : MethodId} {below : List Frame} {meth : Method} {c : Code} {b L : Nat} {xs : Nat → Int32} {D : va_G} {ca : Nat → ClassId} {ad0 ad1 : Nat → Nat} {tk : Nat} (hC : lx_C p s m meth c b L xs D ca ad0 ad1 tk) {i : Int32} {σ τ σ1 τ1 : rf_S} {v : Value} (hin : ∀ j : Int32, 0 < j → j ≤ 5 → vp_in (i + j) L) (a : Nat → Int32) (ha : ∀ j : Nat, j < 6 → a j = xs (i + nI j).toNatClampNeg) (h0 : opC 11 a σ = some (v, σ1)) (h1 : opM 11 a τ = some (v, τ1)) (k : lx_W p l e s m below meth c b D ca ad0 ad1 1490 i [] σ1 τ1) : lx_W p l e s m below meth c b D ca ad0 ad1 609 i [] σ τ := by
  have h0 : (f_X9_room (a 1) (a 2) σ).map (fun q => (Value.int q, σ)) = some (v, σ1) := h0
  have h1 : (f_X10_room (a 1) (a 2) τ).map (fun q => (Value.int q, τ)) = some (v, τ1) := h1
  obtain ⟨q, g0, e0⟩ := Option.map_eq_some_iff.mp h0
  obtain ⟨z, g1, e1⟩ := Option.map_eq_some_iff.mp h1
  have ev0 := congrArg Prod.fst e0
  have es0 := congrArg Prod.snd e0
  have ev1 := congrArg Prod.fst e1
  have es1 := congrArg Prod.snd e1
  dsimp only at ev0 es0 ev1 es1
  subst es0
  subst es1
  subst ev0
  have ez : z = q := Value.int.inj ev1
  rw [ha 1 (by decide), ha 2 (by decide)] at g0 g1
  refine lx_ax hC (lx_dec (e := (609, .aload_n 1, 1, 0)) lx_r8_ok (List.mem_of_getElem? (i := 9) rfl)) ?_
  refine lx_arg hC (j := nI 1) (lx_dec (e := (610, .aload_n 0, 1, 0)) lx_r8_ok (List.mem_of_getElem? (i := 10) rfl)) (lx_dec (e := (611, .iload_n 3, 1, 0)) lx_r8_ok (List.mem_of_getElem? (i := 11) rfl)) (lx_dec (e := (612, .iconst 1, 1, 0)) lx_r8_ok (List.mem_of_getElem? (i := 12) rfl)) (by decide) (lx_dec (e := (613, .iadd, 1, 0)) lx_r8_ok (List.mem_of_getElem? (i := 13) rfl)) (lx_dec (e := (614, .iaload, 1, 0)) lx_r8_ok (List.mem_of_getElem? (i := 14) rfl)) (hin _ (by decide) (by decide)) ?_
  refine lx_arg hC (j := nI 2) (lx_dec (e := (615, .aload_n 0, 1, 0)) lx_r8_ok (List.mem_of_getElem? (i := 15) rfl)) (lx_dec (e := (616, .iload_n 3, 1, 0)) lx_r8_ok (List.mem_of_getElem? (i := 16) rfl)) (lx_dec (e := (617, .iconst 2, 1, 0)) lx_r8_ok (List.mem_of_getElem? (i := 17) rfl)) (by decide) (lx_dec (e := (618, .iadd, 1, 0)) lx_r8_ok (List.mem_of_getElem? (i := 18) rfl)) (lx_dec (e := (619, .iaload, 1, 0)) lx_r8_ok (List.mem_of_getElem? (i := 19) rfl)) (hin _ (by decide) (by decide)) ?_
  refine lx_c0 hC (Mt := mX9_room) [xs (i + nI 1).toNatClampNeg, xs (i + nI 2).toNatClampNeg] (v := .int q) (lx_dec (e := (620, .invokevirtual 61, 3, 0)) lx_r8_ok (List.mem_of_getElem? (i := 20) rfl)) (List.mem_of_getElem? (i := 606) (by decide +kernel)) mw_X9_room rfl rfl rfl (by decide) (d := 6) (by decide) (fun _ => rfl) (ok_X9_room 0 (xs (i + nI 1).toNatClampNeg) (xs (i + nI 2).toNatClampNeg) σ q g0) ?_
  refine lx_am hC (lx_dec (e := (623, .aload_n 2, 1, 0)) lx_r8_ok (List.mem_of_getElem? (i := 21) rfl)) ?_
  refine lx_arg hC (j := nI 1) (lx_dec (e := (624, .aload_n 0, 1, 0)) lx_r8_ok (List.mem_of_getElem? (i := 22) rfl)) (lx_dec (e := (625, .iload_n 3, 1, 0)) lx_r8_ok (List.mem_of_getElem? (i := 23) rfl)) (lx_dec (e := (626, .iconst 1, 1, 0)) lx_r8_ok (List.mem_of_getElem? (i := 24) rfl)) (by decide) (lx_dec (e := (627, .iadd, 1, 0)) lx_r8_ok (List.mem_of_getElem? (i := 25) rfl)) (lx_dec (e := (628, .iaload, 1, 0)) lx_r8_ok (List.mem_of_getElem? (i := 26) rfl)) (hin _ (by decide) (by decide)) ?_
  refine lx_arg hC (j := nI 2) (lx_dec (e := (629, .aload_n 0, 1, 0)) lx_r8_ok (List.mem_of_getElem? (i := 27) rfl)) (lx_dec (e := (630, .iload_n 3, 1, 0)) lx_r8_ok (List.mem_of_getElem? (i := 28) rfl)) (lx_dec (e := (631, .iconst 2, 1, 0)) lx_r8_ok (List.mem_of_getElem? (i := 29) rfl)) (by decide) (lx_dec (e := (632, .iadd, 1, 0)) lx_r8_ok (List.mem_of_getElem? (i := 30) rfl)) (lx_dec (e := (633, .iaload, 1, 0)) lx_r8_ok (List.mem_of_getElem? (i := 31) rfl)) (hin _ (by decide) (by decide)) ?_
  refine lx_c1 hC (Mt := mX10_room) [xs (i + nI 1).toNatClampNeg, xs (i + nI 2).toNatClampNeg] (v := .int z) (rest := [.int q]) (lx_dec (e := (634, .invokevirtual 64, 3, 0)) lx_r8_ok (List.mem_of_getElem? (i := 32) rfl)) (List.mem_of_getElem? (i := 1226) (by decide +kernel)) mw_X10_room rfl rfl rfl (Nat.le_of_ble_eq_true rfl) (d := 7) (by decide) (fun _ => rfl) (ok_X10_room 0 (xs (i + nI 1).toNatClampNeg) (xs (i + nI 2).toNatClampNeg) τ z g1) ?_
  rw [ez]
  exact lx_eq hC (lx_dec (e := (637, .if_icmp .eq 853, 3, 0)) lx_r8_ok (List.mem_of_getElem? (i := 33) rfl)) (by decide) k
set_option maxHeartbeats 1000000 in
theorem lx_k12 {p : Program} {l : Launch} {e : Env} {s : State} {m : MethodId} {below : List Frame} {meth : Method} {c : Code} {b L : Nat} {xs : Nat → Int32} {D : va_G} {ca : Nat → ClassId} {ad0 ad1 : Nat → Nat} {tk : Nat} (hC : lx_C p s m meth c b L xs D ca ad0 ad1 tk) {i : Int32} {σ τ σ1 τ1 : rf_S} {v : Value} (hin : ∀ j : Int32, 0 < j → j ≤ 5 → vp_in (i + j) L) (a : Nat → Int32) (ha : ∀ j : Nat, j < 6 → a j = xs (i + nI j).toNatClampNeg) (h0 : opC 12 a σ = some (v, σ1)) (h1 : opM 12 a τ = some (v, τ1)) (k : lx_W p l e s m below meth c b D ca ad0 ad1 1490 i [] σ1 τ1) : lx_W p l e s m below meth c b D ca ad0 ad1 642 i [] σ τ := by
  have h0 : (f_X9_mark (a 1) (a 2) σ).map (fun q => (Value.int q.1, q.2)) = some (v, σ1) := h0
  have h1 : (f_X10_mark (a 1) (a 2) τ).map (fun q => (Value.int q.1, q.2)) = some (v, τ1) := h1
  obtain ⟨q, g0, e0⟩ := Option.map_eq_some_iff.mp h0
  obtain ⟨z, g1, e1⟩ := Option.map_eq_some_iff.mp h1
  have ev0 := congrArg Prod.fst e0
  have es0 := congrArg Prod.snd e0
  have ev1 := congrArg Prod.fst e1
  have es1 := congrArg Prod.snd e1
  dsimp only at ev0 es0 ev1 es1
  subst es0
  subst es1
  subst ev0
  have ez : z.1 = q.1 := Value.int.inj ev1
  rw [ha 1 (by decide), ha 2 (by decide)] at g0 g1
  refine lx_ax hC (lx_dec (e := (642, .aload_n 1, 1, 0)) lx_r8_ok (List.mem_of_getElem? (i := 36) rfl)) ?_
  refine lx_arg hC (j := nI 1) (lx_dec (e := (643, .aload_n 0, 1, 0)) lx_r8_ok (List.mem_of_getElem? (i := 37) rfl)) (lx_dec (e := (644, .iload_n 3, 1, 0)) lx_r8_ok (List.mem_of_getElem? (i := 38) rfl)) (lx_dec (e := (645, .iconst 1, 1, 0)) lx_r8_ok (List.mem_of_getElem? (i := 39) rfl)) (by decide) (lx_dec (e := (646, .iadd, 1, 0)) lx_r9_ok (List.mem_of_getElem? (i := 0) rfl)) (lx_dec (e := (647, .iaload, 1, 0)) lx_r9_ok (List.mem_of_getElem? (i := 1) rfl)) (hin _ (by decide) (by decide)) ?_
  refine lx_arg hC (j := nI 2) (lx_dec (e := (648, .aload_n 0, 1, 0)) lx_r9_ok (List.mem_of_getElem? (i := 2) rfl)) (lx_dec (e := (649, .iload_n 3, 1, 0)) lx_r9_ok (List.mem_of_getElem? (i := 3) rfl)) (lx_dec (e := (650, .iconst 2, 1, 0)) lx_r9_ok (List.mem_of_getElem? (i := 4) rfl)) (by decide) (lx_dec (e := (651, .iadd, 1, 0)) lx_r9_ok (List.mem_of_getElem? (i := 5) rfl)) (lx_dec (e := (652, .iaload, 1, 0)) lx_r9_ok (List.mem_of_getElem? (i := 6) rfl)) (hin _ (by decide) (by decide)) ?_
  refine lx_c0 hC (Mt := mX9_mark) [xs (i + nI 1).toNatClampNeg, xs (i + nI 2).toNatClampNeg] (v := .int q.1) (lx_dec (e := (653, .invokevirtual 65, 3, 0)) lx_r9_ok (List.mem_of_getElem? (i := 7) rfl)) (List.mem_of_getElem? (i := 631) (by decide +kernel)) mw_X9_mark rfl rfl rfl (by decide) (d := 4) (by decide) (fun _ => rfl) (ok_X9_mark 0 (xs (i + nI 1).toNatClampNeg) (xs (i + nI 2).toNatClampNeg) σ q g0) ?_
  refine lx_am hC (lx_dec (e := (656, .aload_n 2, 1, 0)) lx_r9_ok (List.mem_of_getElem? (i := 8) rfl)) ?_
  refine lx_arg hC (j := nI 1) (lx_dec (e := (657, .aload_n 0, 1, 0)) lx_r9_ok (List.mem_of_getElem? (i := 9) rfl)) (lx_dec (e := (658, .iload_n 3, 1, 0)) lx_r9_ok (List.mem_of_getElem? (i := 10) rfl)) (lx_dec (e := (659, .iconst 1, 1, 0)) lx_r9_ok (List.mem_of_getElem? (i := 11) rfl)) (by decide) (lx_dec (e := (660, .iadd, 1, 0)) lx_r9_ok (List.mem_of_getElem? (i := 12) rfl)) (lx_dec (e := (661, .iaload, 1, 0)) lx_r9_ok (List.mem_of_getElem? (i := 13) rfl)) (hin _ (by decide) (by decide)) ?_
  refine lx_arg hC (j := nI 2) (lx_dec (e := (662, .aload_n 0, 1, 0)) lx_r9_ok (List.mem_of_getElem? (i := 14) rfl)) (lx_dec (e := (663, .iload_n 3, 1, 0)) lx_r9_ok (List.mem_of_getElem? (i := 15) rfl)) (lx_dec (e := (664, .iconst 2, 1, 0)) lx_r9_ok (List.mem_of_getElem? (i := 16) rfl)) (by decide) (lx_dec (e := (665, .iadd, 1, 0)) lx_r9_ok (List.mem_of_getElem? (i := 17) rfl)) (lx_dec (e := (666, .iaload, 1, 0)) lx_r9_ok (List.mem_of_getElem? (i := 18) rfl)) (hin _ (by decide) (by decide)) ?_
  refine lx_c1 hC (Mt := mX10_mark) [xs (i + nI 1).toNatClampNeg, xs (i + nI 2).toNatClampNeg] (v := .int z.1) (rest := [.int q.1]) (lx_dec (e := (667, .invokevirtual 68, 3, 0)) lx_r9_ok (List.mem_of_getElem? (i := 19) rfl)) (List.mem_of_getElem? (i := 1242) (by decide +kernel)) mw_X10_mark rfl rfl rfl (Nat.le_of_ble_eq_true rfl) (d := 4) (by decide) (fun _ => rfl) (ok_X10_mark 0 (xs (i + nI 1).toNatClampNeg) (xs (i + nI 2).toNatClampNeg) τ z g1) ?_
  rw [ez]
  exact lx_eq hC (lx_dec (e := (670, .if_icmp .eq 820, 3, 0)) lx_r9_ok (List.mem_of_getElem? (i := 20) rfl)) (by decide) k
set_option maxHeartbeats 1000000 in
theorem lx_k13 {p : Program} {l : Launch} {e : Env} {s : State} {m : MethodId} {below : List Frame} {meth : Method} {c : Code} {b L : Nat} {xs : Nat → Int32} {D : va_G} {ca : Nat → ClassId} {ad0 ad1 : Nat → Nat} {tk : Nat} (hC : lx_C p s m meth c b L xs D ca ad0 ad1 tk) {i : Int32} {σ τ σ1 τ1 : rf_S} {v : Value} (hin : ∀ j : Int32, 0 < j → j ≤ 5 → vp_in (i + j) L) (a : Nat → Int32) (ha : ∀ j : Nat, j < 6 → a j = xs (i + nI j).toNatClampNeg) (h0 : opC 13 a σ = some (v, σ1)) (h1 : opM 13 a τ = some (v, τ1)) (k : lx_W p l e s m below meth c b D ca ad0 ad1 1490 i [] σ1 τ1) : lx_W p l e s m below meth c b D ca ad0 ad1 675 i [] σ τ := by
  have h0 : (f_X9_walk (a 1) (a 2) σ).map (fun q => (Value.int q.1, q.2)) = some (v, σ1) := h0
  have h1 : (f_X10_walk (a 1) (a 2) τ).map (fun q => (Value.int q.1, q.2)) = some (v, τ1) := h1
  obtain ⟨q, g0, e0⟩ := Option.map_eq_some_iff.mp h0
  obtain ⟨z, g1, e1⟩ := Option.map_eq_some_iff.mp h1
  have ev0 := congrArg Prod.fst e0
  have es0 := congrArg Prod.snd e0
  have ev1 := congrArg Prod.fst e1
  have es1 := congrArg Prod.snd e1
  dsimp only at ev0 es0 ev1 es1
  subst es0
  subst es1
  subst ev0
  have ez : z.1 = q.1 := Value.int.inj ev1
  rw [ha 1 (by decide), ha 2 (by decide)] at g0 g1
  refine lx_ax hC (lx_dec (e := (675, .aload_n 1, 1, 0)) lx_r9_ok (List.mem_of_getElem? (i := 23) rfl)) ?_
  refine lx_arg hC (j := nI 1) (lx_dec (e := (676, .aload_n 0, 1, 0)) lx_r9_ok (List.mem_of_getElem? (i := 24) rfl)) (lx_dec (e := (677, .iload_n 3, 1, 0)) lx_r9_ok (List.mem_of_getElem? (i := 25) rfl)) (lx_dec (e := (678, .iconst 1, 1, 0)) lx_r9_ok (List.mem_of_getElem? (i := 26) rfl)) (by decide) (lx_dec (e := (679, .iadd, 1, 0)) lx_r9_ok (List.mem_of_getElem? (i := 27) rfl)) (lx_dec (e := (680, .iaload, 1, 0)) lx_r9_ok (List.mem_of_getElem? (i := 28) rfl)) (hin _ (by decide) (by decide)) ?_
  refine lx_arg hC (j := nI 2) (lx_dec (e := (681, .aload_n 0, 1, 0)) lx_r9_ok (List.mem_of_getElem? (i := 29) rfl)) (lx_dec (e := (682, .iload_n 3, 1, 0)) lx_r9_ok (List.mem_of_getElem? (i := 30) rfl)) (lx_dec (e := (683, .iconst 2, 1, 0)) lx_r9_ok (List.mem_of_getElem? (i := 31) rfl)) (by decide) (lx_dec (e := (684, .iadd, 1, 0)) lx_r9_ok (List.mem_of_getElem? (i := 32) rfl)) (lx_dec (e := (685, .iaload, 1, 0)) lx_r9_ok (List.mem_of_getElem? (i := 33) rfl)) (hin _ (by decide) (by decide)) ?_
  refine lx_c0 hC (Mt := mX9_walk) [xs (i + nI 1).toNatClampNeg, xs (i + nI 2).toNatClampNeg] (v := .int q.1) (lx_dec (e := (686, .invokevirtual 69, 3, 0)) lx_r9_ok (List.mem_of_getElem? (i := 34) rfl)) (List.mem_of_getElem? (i := 658) (by decide +kernel)) mw_X9_walk rfl rfl rfl (by decide) (d := 6) (by decide) (fun _ => rfl) (ok_X9_walk 0 (xs (i + nI 1).toNatClampNeg) (xs (i + nI 2).toNatClampNeg) σ q g0) ?_
  refine lx_am hC (lx_dec (e := (689, .aload_n 2, 1, 0)) lx_r9_ok (List.mem_of_getElem? (i := 35) rfl)) ?_
  refine lx_arg hC (j := nI 1) (lx_dec (e := (690, .aload_n 0, 1, 0)) lx_r9_ok (List.mem_of_getElem? (i := 36) rfl)) (lx_dec (e := (691, .iload_n 3, 1, 0)) lx_r9_ok (List.mem_of_getElem? (i := 37) rfl)) (lx_dec (e := (692, .iconst 1, 1, 0)) lx_r9_ok (List.mem_of_getElem? (i := 38) rfl)) (by decide) (lx_dec (e := (693, .iadd, 1, 0)) lx_r9_ok (List.mem_of_getElem? (i := 39) rfl)) (lx_dec (e := (694, .iaload, 1, 0)) lx_r10_ok (List.mem_of_getElem? (i := 0) rfl)) (hin _ (by decide) (by decide)) ?_
  refine lx_arg hC (j := nI 2) (lx_dec (e := (695, .aload_n 0, 1, 0)) lx_r10_ok (List.mem_of_getElem? (i := 1) rfl)) (lx_dec (e := (696, .iload_n 3, 1, 0)) lx_r10_ok (List.mem_of_getElem? (i := 2) rfl)) (lx_dec (e := (697, .iconst 2, 1, 0)) lx_r10_ok (List.mem_of_getElem? (i := 3) rfl)) (by decide) (lx_dec (e := (698, .iadd, 1, 0)) lx_r10_ok (List.mem_of_getElem? (i := 4) rfl)) (lx_dec (e := (699, .iaload, 1, 0)) lx_r10_ok (List.mem_of_getElem? (i := 5) rfl)) (hin _ (by decide) (by decide)) ?_
  refine lx_c1 hC (Mt := mX10_walk) [xs (i + nI 1).toNatClampNeg, xs (i + nI 2).toNatClampNeg] (v := .int z.1) (rest := [.int q.1]) (lx_dec (e := (700, .invokevirtual 72, 3, 0)) lx_r10_ok (List.mem_of_getElem? (i := 6) rfl)) (List.mem_of_getElem? (i := 1256) (by decide +kernel)) mw_X10_walk rfl rfl rfl (Nat.le_of_ble_eq_true rfl) (d := 3) (by decide) (fun _ => rfl) (ok_X10_walk 0 (xs (i + nI 1).toNatClampNeg) (xs (i + nI 2).toNatClampNeg) τ z g1) ?_
  rw [ez]
  exact lx_eq hC (lx_dec (e := (703, .if_icmp .eq 787, 3, 0)) lx_r10_ok (List.mem_of_getElem? (i := 7) rfl)) (by decide) k
set_option maxHeartbeats 1000000 in
theorem lx_k14 {p : Program} {l : Launch} {e : Env} {s : State} {m : MethodId} {below : List Frame} {meth : Method} {c : Code} {b L : Nat} {xs : Nat → Int32} {D : va_G} {ca : Nat → ClassId} {ad0 ad1 : Nat → Nat} {tk : Nat} (hC : lx_C p s m meth c b L xs D ca ad0 ad1 tk) {i : Int32} {σ τ σ1 τ1 : rf_S} {v : Value} (hin : ∀ j : Int32, 0 < j → j ≤ 5 → vp_in (i + j) L) (a : Nat → Int32) (ha : ∀ j : Nat, j < 6 → a j = xs (i + nI j).toNatClampNeg) (h0 : opC 14 a σ = some (v, σ1)) (h1 : opM 14 a τ = some (v, τ1)) (k : lx_W p l e s m below meth c b D ca ad0 ad1 1490 i [] σ1 τ1) : lx_W p l e s m below meth c b D ca ad0 ad1 708 i [] σ τ := by
  have h0 : (f_X9_hour σ).map (fun q => (Value.int q.1, q.2)) = some (v, σ1) := h0
  have h1 : (f_X10_hour τ).map (fun q => (Value.int q.1, q.2)) = some (v, τ1) := h1
  obtain ⟨q, g0, e0⟩ := Option.map_eq_some_iff.mp h0
  obtain ⟨z, g1, e1⟩ := Option.map_eq_some_iff.mp h1
  have ev0 := congrArg Prod.fst e0
  have es0 := congrArg Prod.snd e0
  have ev1 := congrArg Prod.fst e1
  have es1 := congrArg Prod.snd e1
  dsimp only at ev0 es0 ev1 es1
  subst es0
  subst es1
  subst ev0
  have ez : z.1 = q.1 := Value.int.inj ev1
  refine lx_ax hC (lx_dec (e := (708, .aload_n 1, 1, 0)) lx_r10_ok (List.mem_of_getElem? (i := 10) rfl)) ?_
  refine lx_c0 hC (Mt := mX9_hour) [] (v := .int q.1) (lx_dec (e := (709, .invokevirtual 73, 3, 0)) lx_r10_ok (List.mem_of_getElem? (i := 11) rfl)) (List.mem_of_getElem? (i := 689) (by decide +kernel)) mw_X9_hour rfl rfl rfl (by decide) (d := 6) (by decide) (fun _ => rfl) (ok_X9_hour 0  σ q g0) ?_
  refine lx_am hC (lx_dec (e := (712, .aload_n 2, 1, 0)) lx_r10_ok (List.mem_of_getElem? (i := 12) rfl)) ?_
  refine lx_c1 hC (Mt := mX10_hour) [] (v := .int z.1) (rest := [.int q.1]) (lx_dec (e := (713, .invokevirtual 77, 3, 0)) lx_r10_ok (List.mem_of_getElem? (i := 13) rfl)) (List.mem_of_getElem? (i := 1271) (by decide +kernel)) mw_X10_hour rfl rfl rfl (Nat.le_of_ble_eq_true rfl) (d := 3) (by decide) (fun _ => rfl) (ok_X10_hour 0  τ z g1) ?_
  rw [ez]
  exact lx_eq hC (lx_dec (e := (716, .if_icmp .eq 774, 3, 0)) lx_r10_ok (List.mem_of_getElem? (i := 14) rfl)) (by decide) k
set_option maxHeartbeats 1000000 in
theorem lx_k15 {p : Program} {l : Launch} {e : Env} {s : State} {m : MethodId} {below : List Frame} {meth : Method} {c : Code} {b L : Nat} {xs : Nat → Int32} {D : va_G} {ca : Nat → ClassId} {ad0 ad1 : Nat → Nat} {tk : Nat} (hC : lx_C p s m meth c b L xs D ca ad0 ad1 tk) {i : Int32} {σ τ σ1 τ1 : rf_S} {v : Value} (hin : ∀ j : Int32, 0 < j → j ≤ 5 → vp_in (i + j) L) (a : Nat → Int32) (ha : ∀ j : Nat, j < 6 → a j = xs (i + nI j).toNatClampNeg) (h0 : opC 15 a σ = some (v, σ1)) (h1 : opM 15 a τ = some (v, τ1)) (k : lx_W p l e s m below meth c b D ca ad0 ad1 1490 i [] σ1 τ1) : lx_W p l e s m below meth c b D ca ad0 ad1 721 i [] σ τ := by
  have h0 : (f_X9_soup σ).map (fun q => (Value.int q.1, q.2)) = some (v, σ1) := h0
  have h1 : (f_X10_soup τ).map (fun q => (Value.int q.1, q.2)) = some (v, τ1) := h1
  obtain ⟨q, g0, e0⟩ := Option.map_eq_some_iff.mp h0
  obtain ⟨z, g1, e1⟩ := Option.map_eq_some_iff.mp h1
  have ev0 := congrArg Prod.fst e0
  have es0 := congrArg Prod.snd e0
  have ev1 := congrArg Prod.fst e1
  have es1 := congrArg Prod.snd e1
  dsimp only at ev0 es0 ev1 es1
  subst es0
  subst es1
  subst ev0
  have ez : z.1 = q.1 := Value.int.inj ev1
  refine lx_ax hC (lx_dec (e := (721, .aload_n 1, 1, 0)) lx_r10_ok (List.mem_of_getElem? (i := 17) rfl)) ?_
  refine lx_c0 hC (Mt := mX9_soup) [] (v := .int q.1) (lx_dec (e := (722, .invokevirtual 78, 3, 0)) lx_r10_ok (List.mem_of_getElem? (i := 18) rfl)) (List.mem_of_getElem? (i := 702) (by decide +kernel)) mw_X9_soup rfl rfl rfl (by decide) (d := 6) (by decide) (fun _ => rfl) (ok_X9_soup 0  σ q g0) ?_
  refine lx_am hC (lx_dec (e := (725, .aload_n 2, 1, 0)) lx_r10_ok (List.mem_of_getElem? (i := 19) rfl)) ?_
  refine lx_c1 hC (Mt := mX10_soup) [] (v := .int z.1) (rest := [.int q.1]) (lx_dec (e := (726, .invokevirtual 81, 3, 0)) lx_r10_ok (List.mem_of_getElem? (i := 20) rfl)) (List.mem_of_getElem? (i := 1286) (by decide +kernel)) mw_X10_soup rfl rfl rfl (Nat.le_of_ble_eq_true rfl) (d := 7) (by decide) (fun _ => rfl) (ok_X10_soup 0  τ z g1) ?_
  rw [ez]
  exact lx_eq hC (lx_dec (e := (729, .if_icmp .eq 761, 3, 0)) lx_r10_ok (List.mem_of_getElem? (i := 21) rfl)) (by decide) k
set_option maxHeartbeats 1000000 in
theorem lx_k16 {p : Program} {l : Launch} {e : Env} {s : State} {m : MethodId} {below : List Frame} {meth : Method} {c : Code} {b L : Nat} {xs : Nat → Int32} {D : va_G} {ca : Nat → ClassId} {ad0 ad1 : Nat → Nat} {tk : Nat} (hC : lx_C p s m meth c b L xs D ca ad0 ad1 tk) {i : Int32} {σ τ σ1 τ1 : rf_S} {v : Value} (hin : ∀ j : Int32, 0 < j → j ≤ 5 → vp_in (i + j) L) (a : Nat → Int32) (ha : ∀ j : Nat, j < 6 → a j = xs (i + nI j).toNatClampNeg) (h0 : opC 16 a σ = some (v, σ1)) (h1 : opM 16 a τ = some (v, τ1)) (k : lx_W p l e s m below meth c b D ca ad0 ad1 1490 i [] σ1 τ1) : lx_W p l e s m below meth c b D ca ad0 ad1 734 i [] σ τ := by
  have h0 : (f_X9_cold (a 1) σ).map (fun q => (Value.int q.1, q.2)) = some (v, σ1) := h0
  have h1 : (f_X10_cold (a 1) τ).map (fun q => (Value.int q.1, q.2)) = some (v, τ1) := h1
  obtain ⟨q, g0, e0⟩ := Option.map_eq_some_iff.mp h0
  obtain ⟨z, g1, e1⟩ := Option.map_eq_some_iff.mp h1
  have ev0 := congrArg Prod.fst e0
  have es0 := congrArg Prod.snd e0
  have ev1 := congrArg Prod.fst e1
  have es1 := congrArg Prod.snd e1
  dsimp only at ev0 es0 ev1 es1
  subst es0
  subst es1
  subst ev0
  have ez : z.1 = q.1 := Value.int.inj ev1
  rw [ha 1 (by decide)] at g0 g1
  refine lx_ax hC (lx_dec (e := (734, .aload_n 1, 1, 0)) lx_r10_ok (List.mem_of_getElem? (i := 24) rfl)) ?_
  refine lx_arg hC (j := nI 1) (lx_dec (e := (735, .aload_n 0, 1, 0)) lx_r10_ok (List.mem_of_getElem? (i := 25) rfl)) (lx_dec (e := (736, .iload_n 3, 1, 0)) lx_r10_ok (List.mem_of_getElem? (i := 26) rfl)) (lx_dec (e := (737, .iconst 1, 1, 0)) lx_r10_ok (List.mem_of_getElem? (i := 27) rfl)) (by decide) (lx_dec (e := (738, .iadd, 1, 0)) lx_r10_ok (List.mem_of_getElem? (i := 28) rfl)) (lx_dec (e := (739, .iaload, 1, 0)) lx_r10_ok (List.mem_of_getElem? (i := 29) rfl)) (hin _ (by decide) (by decide)) ?_
  refine lx_c0 hC (Mt := mX9_cold) [xs (i + nI 1).toNatClampNeg] (v := .int q.1) (lx_dec (e := (740, .invokevirtual 82, 3, 0)) lx_r10_ok (List.mem_of_getElem? (i := 30) rfl)) (List.mem_of_getElem? (i := 706) (by decide +kernel)) mw_X9_cold rfl rfl rfl (by decide) (d := 6) (by decide) (fun _ => rfl) (ok_X9_cold 0 (xs (i + nI 1).toNatClampNeg) σ q g0) ?_
  refine lx_am hC (lx_dec (e := (743, .aload_n 2, 1, 0)) lx_r10_ok (List.mem_of_getElem? (i := 31) rfl)) ?_
  refine lx_arg hC (j := nI 1) (lx_dec (e := (744, .aload_n 0, 1, 0)) lx_r10_ok (List.mem_of_getElem? (i := 32) rfl)) (lx_dec (e := (745, .iload_n 3, 1, 0)) lx_r10_ok (List.mem_of_getElem? (i := 33) rfl)) (lx_dec (e := (746, .iconst 1, 1, 0)) lx_r10_ok (List.mem_of_getElem? (i := 34) rfl)) (by decide) (lx_dec (e := (747, .iadd, 1, 0)) lx_r10_ok (List.mem_of_getElem? (i := 35) rfl)) (lx_dec (e := (748, .iaload, 1, 0)) lx_r10_ok (List.mem_of_getElem? (i := 36) rfl)) (hin _ (by decide) (by decide)) ?_
  refine lx_c1 hC (Mt := mX10_cold) [xs (i + nI 1).toNatClampNeg] (v := .int z.1) (rest := [.int q.1]) (lx_dec (e := (749, .invokevirtual 85, 3, 0)) lx_r10_ok (List.mem_of_getElem? (i := 37) rfl)) (List.mem_of_getElem? (i := 1290) (by decide +kernel)) mw_X10_cold rfl rfl rfl (Nat.le_of_ble_eq_true rfl) (d := 3) (by decide) (fun _ => rfl) (ok_X10_cold 0 (xs (i + nI 1).toNatClampNeg) τ z g1) ?_
  rw [ez]
  exact lx_eq hC (lx_dec (e := (752, .if_icmp .eq 738, 3, 0)) lx_r10_ok (List.mem_of_getElem? (i := 38) rfl)) (by decide) k
set_option maxHeartbeats 1000000 in
theorem lx_k17 {p : Program} {l : Launch} {e : Env} {s : State} {m : MethodId} {below : List Frame} {meth : Method} {c : Code} {b L : Nat} {xs : Nat → Int32} {D : va_G} {ca : Nat → ClassId} {ad0 ad1 : Nat → Nat} {tk : Nat} (hC : lx_C p s m meth c b L xs D ca ad0 ad1 tk) {i : Int32} {σ τ σ1 τ1 : rf_S} {v : Value} (hin : ∀ j : Int32, 0 < j → j ≤ 5 → vp_in (i + j) L) (a : Nat → Int32) (ha : ∀ j : Nat, j < 6 → a j = xs (i + nI j).toNatClampNeg) (h0 : opC 17 a σ = some (v, σ1)) (h1 : opM 17 a τ = some (v, τ1)) (k : lx_W p l e s m below meth c b D ca ad0 ad1 1490 i [] σ1 τ1) : lx_W p l e s m below meth c b D ca ad0 ad1 757 i [] σ τ := by
  have h0 : (f_X9_love (a 1) (a 2) σ).map (fun q => (Value.int q.1, q.2)) = some (v, σ1) := h0
  have h1 : (f_X10_love (a 1) (a 2) τ).map (fun q => (Value.int q.1, q.2)) = some (v, τ1) := h1
  obtain ⟨q, g0, e0⟩ := Option.map_eq_some_iff.mp h0
  obtain ⟨z, g1, e1⟩ := Option.map_eq_some_iff.mp h1
  have ev0 := congrArg Prod.fst e0
  have es0 := congrArg Prod.snd e0
  have ev1 := congrArg Prod.fst e1
  have es1 := congrArg Prod.snd e1
  dsimp only at ev0 es0 ev1 es1
  subst es0
  subst es1
  subst ev0
  have ez : z.1 = q.1 := Value.int.inj ev1
  rw [ha 1 (by decide), ha 2 (by decide)] at g0 g1
  refine lx_ax hC (lx_dec (e := (757, .aload_n 1, 1, 0)) lx_r11_ok (List.mem_of_getElem? (i := 1) rfl)) ?_
  refine lx_arg hC (j := nI 1) (lx_dec (e := (758, .aload_n 0, 1, 0)) lx_r11_ok (List.mem_of_getElem? (i := 2) rfl)) (lx_dec (e := (759, .iload_n 3, 1, 0)) lx_r11_ok (List.mem_of_getElem? (i := 3) rfl)) (lx_dec (e := (760, .iconst 1, 1, 0)) lx_r11_ok (List.mem_of_getElem? (i := 4) rfl)) (by decide) (lx_dec (e := (761, .iadd, 1, 0)) lx_r11_ok (List.mem_of_getElem? (i := 5) rfl)) (lx_dec (e := (762, .iaload, 1, 0)) lx_r11_ok (List.mem_of_getElem? (i := 6) rfl)) (hin _ (by decide) (by decide)) ?_
  refine lx_arg hC (j := nI 2) (lx_dec (e := (763, .aload_n 0, 1, 0)) lx_r11_ok (List.mem_of_getElem? (i := 7) rfl)) (lx_dec (e := (764, .iload_n 3, 1, 0)) lx_r11_ok (List.mem_of_getElem? (i := 8) rfl)) (lx_dec (e := (765, .iconst 2, 1, 0)) lx_r11_ok (List.mem_of_getElem? (i := 9) rfl)) (by decide) (lx_dec (e := (766, .iadd, 1, 0)) lx_r11_ok (List.mem_of_getElem? (i := 10) rfl)) (lx_dec (e := (767, .iaload, 1, 0)) lx_r11_ok (List.mem_of_getElem? (i := 11) rfl)) (hin _ (by decide) (by decide)) ?_
  refine lx_c0 hC (Mt := mX9_love) [xs (i + nI 1).toNatClampNeg, xs (i + nI 2).toNatClampNeg] (v := .int q.1) (lx_dec (e := (768, .invokevirtual 86, 3, 0)) lx_r11_ok (List.mem_of_getElem? (i := 12) rfl)) (List.mem_of_getElem? (i := 710) (by decide +kernel)) mw_X9_love rfl rfl rfl (by decide) (d := 6) (by decide) (fun _ => rfl) (ok_X9_love 0 (xs (i + nI 1).toNatClampNeg) (xs (i + nI 2).toNatClampNeg) σ q g0) ?_
  refine lx_am hC (lx_dec (e := (771, .aload_n 2, 1, 0)) lx_r11_ok (List.mem_of_getElem? (i := 13) rfl)) ?_
  refine lx_arg hC (j := nI 1) (lx_dec (e := (772, .aload_n 0, 1, 0)) lx_r11_ok (List.mem_of_getElem? (i := 14) rfl)) (lx_dec (e := (773, .iload_n 3, 1, 0)) lx_r11_ok (List.mem_of_getElem? (i := 15) rfl)) (lx_dec (e := (774, .iconst 1, 1, 0)) lx_r11_ok (List.mem_of_getElem? (i := 16) rfl)) (by decide) (lx_dec (e := (775, .iadd, 1, 0)) lx_r11_ok (List.mem_of_getElem? (i := 17) rfl)) (lx_dec (e := (776, .iaload, 1, 0)) lx_r11_ok (List.mem_of_getElem? (i := 18) rfl)) (hin _ (by decide) (by decide)) ?_
  refine lx_arg hC (j := nI 2) (lx_dec (e := (777, .aload_n 0, 1, 0)) lx_r11_ok (List.mem_of_getElem? (i := 19) rfl)) (lx_dec (e := (778, .iload_n 3, 1, 0)) lx_r11_ok (List.mem_of_getElem? (i := 20) rfl)) (lx_dec (e := (779, .iconst 2, 1, 0)) lx_r11_ok (List.mem_of_getElem? (i := 21) rfl)) (by decide) (lx_dec (e := (780, .iadd, 1, 0)) lx_r11_ok (List.mem_of_getElem? (i := 22) rfl)) (lx_dec (e := (781, .iaload, 1, 0)) lx_r11_ok (List.mem_of_getElem? (i := 23) rfl)) (hin _ (by decide) (by decide)) ?_
  refine lx_c1 hC (Mt := mX10_love) [xs (i + nI 1).toNatClampNeg, xs (i + nI 2).toNatClampNeg] (v := .int z.1) (rest := [.int q.1]) (lx_dec (e := (782, .invokevirtual 89, 3, 0)) lx_r11_ok (List.mem_of_getElem? (i := 24) rfl)) (List.mem_of_getElem? (i := 1298) (by decide +kernel)) mw_X10_love rfl rfl rfl (Nat.le_of_ble_eq_true rfl) (d := 6) (by decide) (fun _ => rfl) (ok_X10_love 0 (xs (i + nI 1).toNatClampNeg) (xs (i + nI 2).toNatClampNeg) τ z g1) ?_
  rw [ez]
  exact lx_eq hC (lx_dec (e := (785, .if_icmp .eq 705, 3, 0)) lx_r11_ok (List.mem_of_getElem? (i := 25) rfl)) (by decide) k
set_option maxHeartbeats 1000000 in
theorem lx_k18 {p : Program} {l : Launch} {e : Env} {s : State} {m : MethodId} {below : List Frame} {meth : Method} {c : Code} {b L : Nat} {xs : Nat → Int32} {D : va_G} {ca : Nat → ClassId} {ad0 ad1 : Nat → Nat} {tk : Nat} (hC : lx_C p s m meth c b L xs D ca ad0 ad1 tk) {i : Int32} {σ τ σ1 τ1 : rf_S} {v : Value} (hin : ∀ j : Int32, 0 < j → j ≤ 5 → vp_in (i + j) L) (a : Nat → Int32) (ha : ∀ j : Nat, j < 6 → a j = xs (i + nI j).toNatClampNeg) (h0 : opC 18 a σ = some (v, σ1)) (h1 : opM 18 a τ = some (v, τ1)) (k : lx_W p l e s m below meth c b D ca ad0 ad1 1490 i [] σ1 τ1) : lx_W p l e s m below meth c b D ca ad0 ad1 790 i [] σ τ := by
  have h0 : (f_X9_fire (a 1) (a 2) σ).map (fun q => (Value.int q.1, q.2)) = some (v, σ1) := h0
  have h1 : (f_X10_fire (a 1) (a 2) τ).map (fun q => (Value.int q.1, q.2)) = some (v, τ1) := h1
  obtain ⟨q, g0, e0⟩ := Option.map_eq_some_iff.mp h0
  obtain ⟨z, g1, e1⟩ := Option.map_eq_some_iff.mp h1
  have ev0 := congrArg Prod.fst e0
  have es0 := congrArg Prod.snd e0
  have ev1 := congrArg Prod.fst e1
  have es1 := congrArg Prod.snd e1
  dsimp only at ev0 es0 ev1 es1
  subst es0
  subst es1
  subst ev0
  have ez : z.1 = q.1 := Value.int.inj ev1
  rw [ha 1 (by decide), ha 2 (by decide)] at g0 g1
  refine lx_ax hC (lx_dec (e := (790, .aload_n 1, 1, 0)) lx_r11_ok (List.mem_of_getElem? (i := 28) rfl)) ?_
  refine lx_arg hC (j := nI 1) (lx_dec (e := (791, .aload_n 0, 1, 0)) lx_r11_ok (List.mem_of_getElem? (i := 29) rfl)) (lx_dec (e := (792, .iload_n 3, 1, 0)) lx_r11_ok (List.mem_of_getElem? (i := 30) rfl)) (lx_dec (e := (793, .iconst 1, 1, 0)) lx_r11_ok (List.mem_of_getElem? (i := 31) rfl)) (by decide) (lx_dec (e := (794, .iadd, 1, 0)) lx_r11_ok (List.mem_of_getElem? (i := 32) rfl)) (lx_dec (e := (795, .iaload, 1, 0)) lx_r11_ok (List.mem_of_getElem? (i := 33) rfl)) (hin _ (by decide) (by decide)) ?_
  refine lx_arg hC (j := nI 2) (lx_dec (e := (796, .aload_n 0, 1, 0)) lx_r11_ok (List.mem_of_getElem? (i := 34) rfl)) (lx_dec (e := (797, .iload_n 3, 1, 0)) lx_r11_ok (List.mem_of_getElem? (i := 35) rfl)) (lx_dec (e := (798, .iconst 2, 1, 0)) lx_r11_ok (List.mem_of_getElem? (i := 36) rfl)) (by decide) (lx_dec (e := (799, .iadd, 1, 0)) lx_r11_ok (List.mem_of_getElem? (i := 37) rfl)) (lx_dec (e := (800, .iaload, 1, 0)) lx_r11_ok (List.mem_of_getElem? (i := 38) rfl)) (hin _ (by decide) (by decide)) ?_
  refine lx_c0 hC (Mt := mX9_fire) [xs (i + nI 1).toNatClampNeg, xs (i + nI 2).toNatClampNeg] (v := .int q.1) (lx_dec (e := (801, .invokevirtual 90, 3, 0)) lx_r11_ok (List.mem_of_getElem? (i := 39) rfl)) (List.mem_of_getElem? (i := 714) (by decide +kernel)) mw_X9_fire rfl rfl rfl (by decide) (d := 6) (by decide) (fun _ => rfl) (ok_X9_fire 0 (xs (i + nI 1).toNatClampNeg) (xs (i + nI 2).toNatClampNeg) σ q g0) ?_
  refine lx_am hC (lx_dec (e := (804, .aload_n 2, 1, 0)) lx_r12_ok (List.mem_of_getElem? (i := 0) rfl)) ?_
  refine lx_arg hC (j := nI 1) (lx_dec (e := (805, .aload_n 0, 1, 0)) lx_r12_ok (List.mem_of_getElem? (i := 1) rfl)) (lx_dec (e := (806, .iload_n 3, 1, 0)) lx_r12_ok (List.mem_of_getElem? (i := 2) rfl)) (lx_dec (e := (807, .iconst 1, 1, 0)) lx_r12_ok (List.mem_of_getElem? (i := 3) rfl)) (by decide) (lx_dec (e := (808, .iadd, 1, 0)) lx_r12_ok (List.mem_of_getElem? (i := 4) rfl)) (lx_dec (e := (809, .iaload, 1, 0)) lx_r12_ok (List.mem_of_getElem? (i := 5) rfl)) (hin _ (by decide) (by decide)) ?_
  refine lx_arg hC (j := nI 2) (lx_dec (e := (810, .aload_n 0, 1, 0)) lx_r12_ok (List.mem_of_getElem? (i := 6) rfl)) (lx_dec (e := (811, .iload_n 3, 1, 0)) lx_r12_ok (List.mem_of_getElem? (i := 7) rfl)) (lx_dec (e := (812, .iconst 2, 1, 0)) lx_r12_ok (List.mem_of_getElem? (i := 8) rfl)) (by decide) (lx_dec (e := (813, .iadd, 1, 0)) lx_r12_ok (List.mem_of_getElem? (i := 9) rfl)) (lx_dec (e := (814, .iaload, 1, 0)) lx_r12_ok (List.mem_of_getElem? (i := 10) rfl)) (hin _ (by decide) (by decide)) ?_
  refine lx_c1 hC (Mt := mX10_fire) [xs (i + nI 1).toNatClampNeg, xs (i + nI 2).toNatClampNeg] (v := .int z.1) (rest := [.int q.1]) (lx_dec (e := (815, .invokevirtual 93, 3, 0)) lx_r12_ok (List.mem_of_getElem? (i := 11) rfl)) (List.mem_of_getElem? (i := 1302) (by decide +kernel)) mw_X10_fire rfl rfl rfl (Nat.le_of_ble_eq_true rfl) (d := 3) (by decide) (fun _ => rfl) (ok_X10_fire 0 (xs (i + nI 1).toNatClampNeg) (xs (i + nI 2).toNatClampNeg) τ z g1) ?_
  rw [ez]
  exact lx_eq hC (lx_dec (e := (818, .if_icmp .eq 672, 3, 0)) lx_r12_ok (List.mem_of_getElem? (i := 12) rfl)) (by decide) k
set_option maxHeartbeats 1000000 in
theorem lx_k19 {p : Program} {l : Launch} {e : Env} {s : State} {m : MethodId} {below : List Frame} {meth : Method} {c : Code} {b L : Nat} {xs : Nat → Int32} {D : va_G} {ca : Nat → ClassId} {ad0 ad1 : Nat → Nat} {tk : Nat} (hC : lx_C p s m meth c b L xs D ca ad0 ad1 tk) {i : Int32} {σ τ σ1 τ1 : rf_S} {v : Value} (hin : ∀ j : Int32, 0 < j → j ≤ 5 → vp_in (i + j) L) (a : Nat → Int32) (ha : ∀ j : Nat, j < 6 → a j = xs (i + nI j).toNatClampNeg) (h0 : opC 19 a σ = some (v, σ1)) (h1 : opM 19 a τ = some (v, τ1)) (k : lx_W p l e s m below meth c b D ca ad0 ad1 1490 i [] σ1 τ1) : lx_W p l e s m below meth c b D ca ad0 ad1 823 i [] σ τ := by
  have h0 : (f_X9_undo (a 1) σ).map (fun q => (Value.int q.1, q.2)) = some (v, σ1) := h0
  have h1 : (f_X10_undo (a 1) τ).map (fun q => (Value.int q.1, q.2)) = some (v, τ1) := h1
  obtain ⟨q, g0, e0⟩ := Option.map_eq_some_iff.mp h0
  obtain ⟨z, g1, e1⟩ := Option.map_eq_some_iff.mp h1
  have ev0 := congrArg Prod.fst e0
  have es0 := congrArg Prod.snd e0
  have ev1 := congrArg Prod.fst e1
  have es1 := congrArg Prod.snd e1
  dsimp only at ev0 es0 ev1 es1
  subst es0
  subst es1
  subst ev0
  have ez : z.1 = q.1 := Value.int.inj ev1
  rw [ha 1 (by decide)] at g0 g1
  refine lx_ax hC (lx_dec (e := (823, .aload_n 1, 1, 0)) lx_r12_ok (List.mem_of_getElem? (i := 15) rfl)) ?_
  refine lx_arg hC (j := nI 1) (lx_dec (e := (824, .aload_n 0, 1, 0)) lx_r12_ok (List.mem_of_getElem? (i := 16) rfl)) (lx_dec (e := (825, .iload_n 3, 1, 0)) lx_r12_ok (List.mem_of_getElem? (i := 17) rfl)) (lx_dec (e := (826, .iconst 1, 1, 0)) lx_r12_ok (List.mem_of_getElem? (i := 18) rfl)) (by decide) (lx_dec (e := (827, .iadd, 1, 0)) lx_r12_ok (List.mem_of_getElem? (i := 19) rfl)) (lx_dec (e := (828, .iaload, 1, 0)) lx_r12_ok (List.mem_of_getElem? (i := 20) rfl)) (hin _ (by decide) (by decide)) ?_
  refine lx_c0 hC (Mt := mX9_undo) [xs (i + nI 1).toNatClampNeg] (v := .int q.1) (lx_dec (e := (829, .invokevirtual 94, 3, 0)) lx_r12_ok (List.mem_of_getElem? (i := 21) rfl)) (List.mem_of_getElem? (i := 721) (by decide +kernel)) mw_X9_undo rfl rfl rfl (by decide) (d := 6) (by decide) (fun _ => rfl) (ok_X9_undo 0 (xs (i + nI 1).toNatClampNeg) σ q g0) ?_
  refine lx_am hC (lx_dec (e := (832, .aload_n 2, 1, 0)) lx_r12_ok (List.mem_of_getElem? (i := 22) rfl)) ?_
  refine lx_arg hC (j := nI 1) (lx_dec (e := (833, .aload_n 0, 1, 0)) lx_r12_ok (List.mem_of_getElem? (i := 23) rfl)) (lx_dec (e := (834, .iload_n 3, 1, 0)) lx_r12_ok (List.mem_of_getElem? (i := 24) rfl)) (lx_dec (e := (835, .iconst 1, 1, 0)) lx_r12_ok (List.mem_of_getElem? (i := 25) rfl)) (by decide) (lx_dec (e := (836, .iadd, 1, 0)) lx_r12_ok (List.mem_of_getElem? (i := 26) rfl)) (lx_dec (e := (837, .iaload, 1, 0)) lx_r12_ok (List.mem_of_getElem? (i := 27) rfl)) (hin _ (by decide) (by decide)) ?_
  refine lx_c1 hC (Mt := mX10_undo) [xs (i + nI 1).toNatClampNeg] (v := .int z.1) (rest := [.int q.1]) (lx_dec (e := (838, .invokevirtual 97, 3, 0)) lx_r12_ok (List.mem_of_getElem? (i := 28) rfl)) (List.mem_of_getElem? (i := 1306) (by decide +kernel)) mw_X10_undo rfl rfl rfl (Nat.le_of_ble_eq_true rfl) (d := 2) (by decide) (fun _ => rfl) (ok_X10_undo 0 (xs (i + nI 1).toNatClampNeg) τ z g1) ?_
  rw [ez]
  exact lx_eq hC (lx_dec (e := (841, .if_icmp .eq 649, 3, 0)) lx_r12_ok (List.mem_of_getElem? (i := 29) rfl)) (by decide) k
set_option maxHeartbeats 1000000 in
theorem lx_k20 {p : Program} {l : Launch} {e : Env} {s : State} {m : MethodId} {below : List Frame} {meth : Method} {c : Code} {b L : Nat} {xs : Nat → Int32} {D : va_G} {ca : Nat → ClassId} {ad0 ad1 : Nat → Nat} {tk : Nat} (hC : lx_C p s m meth c b L xs D ca ad0 ad1 tk) {i : Int32} {σ τ σ1 τ1 : rf_S} {v : Value} (hin : ∀ j : Int32, 0 < j → j ≤ 5 → vp_in (i + j) L) (a : Nat → Int32) (ha : ∀ j : Nat, j < 6 → a j = xs (i + nI j).toNatClampNeg) (h0 : opC 20 a σ = some (v, σ1)) (h1 : opM 20 a τ = some (v, τ1)) (k : lx_W p l e s m below meth c b D ca ad0 ad1 1490 i [] σ1 τ1) : lx_W p l e s m below meth c b D ca ad0 ad1 846 i [] σ τ := by
  have h0 : (f_X9_keep (a 1) σ).map (fun q => (Value.int q.1, q.2)) = some (v, σ1) := h0
  have h1 : (f_X10_keep (a 1) τ).map (fun q => (Value.int q.1, q.2)) = some (v, τ1) := h1
  obtain ⟨q, g0, e0⟩ := Option.map_eq_some_iff.mp h0
  obtain ⟨z, g1, e1⟩ := Option.map_eq_some_iff.mp h1
  have ev0 := congrArg Prod.fst e0
  have es0 := congrArg Prod.snd e0
  have ev1 := congrArg Prod.fst e1
  have es1 := congrArg Prod.snd e1
  dsimp only at ev0 es0 ev1 es1
  subst es0
  subst es1
  subst ev0
  have ez : z.1 = q.1 := Value.int.inj ev1
  rw [ha 1 (by decide)] at g0 g1
  refine lx_ax hC (lx_dec (e := (846, .aload_n 1, 1, 0)) lx_r12_ok (List.mem_of_getElem? (i := 32) rfl)) ?_
  refine lx_arg hC (j := nI 1) (lx_dec (e := (847, .aload_n 0, 1, 0)) lx_r12_ok (List.mem_of_getElem? (i := 33) rfl)) (lx_dec (e := (848, .iload_n 3, 1, 0)) lx_r12_ok (List.mem_of_getElem? (i := 34) rfl)) (lx_dec (e := (849, .iconst 1, 1, 0)) lx_r12_ok (List.mem_of_getElem? (i := 35) rfl)) (by decide) (lx_dec (e := (850, .iadd, 1, 0)) lx_r12_ok (List.mem_of_getElem? (i := 36) rfl)) (lx_dec (e := (851, .iaload, 1, 0)) lx_r12_ok (List.mem_of_getElem? (i := 37) rfl)) (hin _ (by decide) (by decide)) ?_
  refine lx_c0 hC (Mt := mX9_keep) [xs (i + nI 1).toNatClampNeg] (v := .int q.1) (lx_dec (e := (852, .invokevirtual 98, 3, 0)) lx_r12_ok (List.mem_of_getElem? (i := 38) rfl)) (List.mem_of_getElem? (i := 730) (by decide +kernel)) mw_X9_keep rfl rfl rfl (by decide) (d := 2) (by decide) (fun _ => rfl) (ok_X9_keep 0 (xs (i + nI 1).toNatClampNeg) σ q g0) ?_
  refine lx_am hC (lx_dec (e := (855, .aload_n 2, 1, 0)) lx_r12_ok (List.mem_of_getElem? (i := 39) rfl)) ?_
  refine lx_arg hC (j := nI 1) (lx_dec (e := (856, .aload_n 0, 1, 0)) lx_r13_ok (List.mem_of_getElem? (i := 0) rfl)) (lx_dec (e := (857, .iload_n 3, 1, 0)) lx_r13_ok (List.mem_of_getElem? (i := 1) rfl)) (lx_dec (e := (858, .iconst 1, 1, 0)) lx_r13_ok (List.mem_of_getElem? (i := 2) rfl)) (by decide) (lx_dec (e := (859, .iadd, 1, 0)) lx_r13_ok (List.mem_of_getElem? (i := 3) rfl)) (lx_dec (e := (860, .iaload, 1, 0)) lx_r13_ok (List.mem_of_getElem? (i := 4) rfl)) (hin _ (by decide) (by decide)) ?_
  refine lx_c1 hC (Mt := mX10_keep) [xs (i + nI 1).toNatClampNeg] (v := .int z.1) (rest := [.int q.1]) (lx_dec (e := (861, .invokevirtual 101, 3, 0)) lx_r13_ok (List.mem_of_getElem? (i := 5) rfl)) (List.mem_of_getElem? (i := 1310) (by decide +kernel)) mw_X10_keep rfl rfl rfl (Nat.le_of_ble_eq_true rfl) (d := 2) (by decide) (fun _ => rfl) (ok_X10_keep 0 (xs (i + nI 1).toNatClampNeg) τ z g1) ?_
  rw [ez]
  exact lx_eq hC (lx_dec (e := (864, .if_icmp .eq 626, 3, 0)) lx_r13_ok (List.mem_of_getElem? (i := 6) rfl)) (by decide) k
set_option maxHeartbeats 1000000 in
theorem lx_k21 {p : Program} {l : Launch} {e : Env} {s : State} {m : MethodId} {below : List Frame} {meth : Method} {c : Code} {b L : Nat} {xs : Nat → Int32} {D : va_G} {ca : Nat → ClassId} {ad0 ad1 : Nat → Nat} {tk : Nat} (hC : lx_C p s m meth c b L xs D ca ad0 ad1 tk) {i : Int32} {σ τ σ1 τ1 : rf_S} {v : Value} (hin : ∀ j : Int32, 0 < j → j ≤ 5 → vp_in (i + j) L) (a : Nat → Int32) (ha : ∀ j : Nat, j < 6 → a j = xs (i + nI j).toNatClampNeg) (h0 : opC 21 a σ = some (v, σ1)) (h1 : opM 21 a τ = some (v, τ1)) (k : lx_W p l e s m below meth c b D ca ad0 ad1 1490 i [] σ1 τ1) : lx_W p l e s m below meth c b D ca ad0 ad1 869 i [] σ τ := by
  have h0 : (f_X9_on (a 1) σ).map (fun q => (Value.int q.1, q.2)) = some (v, σ1) := h0
  have h1 : (f_X10_on (a 1) τ).map (fun q => (Value.int q.1, q.2)) = some (v, τ1) := h1
  obtain ⟨q, g0, e0⟩ := Option.map_eq_some_iff.mp h0
  obtain ⟨z, g1, e1⟩ := Option.map_eq_some_iff.mp h1
  have ev0 := congrArg Prod.fst e0
  have es0 := congrArg Prod.snd e0
  have ev1 := congrArg Prod.fst e1
  have es1 := congrArg Prod.snd e1
  dsimp only at ev0 es0 ev1 es1
  subst es0
  subst es1
  subst ev0
  have ez : z.1 = q.1 := Value.int.inj ev1
  rw [ha 1 (by decide)] at g0 g1
  refine lx_ax hC (lx_dec (e := (869, .aload_n 1, 1, 0)) lx_r13_ok (List.mem_of_getElem? (i := 9) rfl)) ?_
  refine lx_arg hC (j := nI 1) (lx_dec (e := (870, .aload_n 0, 1, 0)) lx_r13_ok (List.mem_of_getElem? (i := 10) rfl)) (lx_dec (e := (871, .iload_n 3, 1, 0)) lx_r13_ok (List.mem_of_getElem? (i := 11) rfl)) (lx_dec (e := (872, .iconst 1, 1, 0)) lx_r13_ok (List.mem_of_getElem? (i := 12) rfl)) (by decide) (lx_dec (e := (873, .iadd, 1, 0)) lx_r13_ok (List.mem_of_getElem? (i := 13) rfl)) (lx_dec (e := (874, .iaload, 1, 0)) lx_r13_ok (List.mem_of_getElem? (i := 14) rfl)) (hin _ (by decide) (by decide)) ?_
  refine lx_c0 hC (Mt := mX9_on) [xs (i + nI 1).toNatClampNeg] (v := .int q.1) (lx_dec (e := (875, .invokevirtual 102, 3, 0)) lx_r13_ok (List.mem_of_getElem? (i := 15) rfl)) (List.mem_of_getElem? (i := 742) (by decide +kernel)) mw_X9_on rfl rfl rfl (by decide) (d := 7) (by decide) (fun _ => rfl) (ok_X9_on 0 (xs (i + nI 1).toNatClampNeg) σ q g0) ?_
  refine lx_am hC (lx_dec (e := (878, .aload_n 2, 1, 0)) lx_r13_ok (List.mem_of_getElem? (i := 16) rfl)) ?_
  refine lx_arg hC (j := nI 1) (lx_dec (e := (879, .aload_n 0, 1, 0)) lx_r13_ok (List.mem_of_getElem? (i := 17) rfl)) (lx_dec (e := (880, .iload_n 3, 1, 0)) lx_r13_ok (List.mem_of_getElem? (i := 18) rfl)) (lx_dec (e := (881, .iconst 1, 1, 0)) lx_r13_ok (List.mem_of_getElem? (i := 19) rfl)) (by decide) (lx_dec (e := (882, .iadd, 1, 0)) lx_r13_ok (List.mem_of_getElem? (i := 20) rfl)) (lx_dec (e := (883, .iaload, 1, 0)) lx_r13_ok (List.mem_of_getElem? (i := 21) rfl)) (hin _ (by decide) (by decide)) ?_
  refine lx_c1 hC (Mt := mX10_on) [xs (i + nI 1).toNatClampNeg] (v := .int z.1) (rest := [.int q.1]) (lx_dec (e := (884, .invokevirtual 105, 3, 0)) lx_r13_ok (List.mem_of_getElem? (i := 22) rfl)) (List.mem_of_getElem? (i := 1314) (by decide +kernel)) mw_X10_on rfl rfl rfl (Nat.le_of_ble_eq_true rfl) (d := 2) (by decide) (fun _ => rfl) (ok_X10_on 0 (xs (i + nI 1).toNatClampNeg) τ z g1) ?_
  rw [ez]
  exact lx_eq hC (lx_dec (e := (887, .if_icmp .eq 603, 3, 0)) lx_r13_ok (List.mem_of_getElem? (i := 23) rfl)) (by decide) k
set_option maxHeartbeats 1000000 in
theorem lx_k22 {p : Program} {l : Launch} {e : Env} {s : State} {m : MethodId} {below : List Frame} {meth : Method} {c : Code} {b L : Nat} {xs : Nat → Int32} {D : va_G} {ca : Nat → ClassId} {ad0 ad1 : Nat → Nat} {tk : Nat} (hC : lx_C p s m meth c b L xs D ca ad0 ad1 tk) {i : Int32} {σ τ σ1 τ1 : rf_S} {v : Value} (hin : ∀ j : Int32, 0 < j → j ≤ 5 → vp_in (i + j) L) (a : Nat → Int32) (ha : ∀ j : Nat, j < 6 → a j = xs (i + nI j).toNatClampNeg) (h0 : opC 22 a σ = some (v, σ1)) (h1 : opM 22 a τ = some (v, τ1)) (k : lx_W p l e s m below meth c b D ca ad0 ad1 1490 i [] σ1 τ1) : lx_W p l e s m below meth c b D ca ad0 ad1 892 i [] σ τ := by
  have h0 : (f_X9_span (a 1) σ).map (fun q => (Value.int q.1, q.2)) = some (v, σ1) := h0
  have h1 : (f_X10_span (a 1) τ).map (fun q => (Value.int q.1, q.2)) = some (v, τ1) := h1
  obtain ⟨q, g0, e0⟩ := Option.map_eq_some_iff.mp h0
  obtain ⟨z, g1, e1⟩ := Option.map_eq_some_iff.mp h1
  have ev0 := congrArg Prod.fst e0
  have es0 := congrArg Prod.snd e0
  have ev1 := congrArg Prod.fst e1
  have es1 := congrArg Prod.snd e1
  dsimp only at ev0 es0 ev1 es1
  subst es0
  subst es1
  subst ev0
  have ez : z.1 = q.1 := Value.int.inj ev1
  rw [ha 1 (by decide)] at g0 g1
  refine lx_ax hC (lx_dec (e := (892, .aload_n 1, 1, 0)) lx_r13_ok (List.mem_of_getElem? (i := 26) rfl)) ?_
  refine lx_arg hC (j := nI 1) (lx_dec (e := (893, .aload_n 0, 1, 0)) lx_r13_ok (List.mem_of_getElem? (i := 27) rfl)) (lx_dec (e := (894, .iload_n 3, 1, 0)) lx_r13_ok (List.mem_of_getElem? (i := 28) rfl)) (lx_dec (e := (895, .iconst 1, 1, 0)) lx_r13_ok (List.mem_of_getElem? (i := 29) rfl)) (by decide) (lx_dec (e := (896, .iadd, 1, 0)) lx_r13_ok (List.mem_of_getElem? (i := 30) rfl)) (lx_dec (e := (897, .iaload, 1, 0)) lx_r13_ok (List.mem_of_getElem? (i := 31) rfl)) (hin _ (by decide) (by decide)) ?_
  refine lx_c0 hC (Mt := mX9_span) [xs (i + nI 1).toNatClampNeg] (v := .int q.1) (lx_dec (e := (898, .invokevirtual 106, 3, 0)) lx_r13_ok (List.mem_of_getElem? (i := 32) rfl)) (List.mem_of_getElem? (i := 751) (by decide +kernel)) mw_X9_span rfl rfl rfl (by decide) (d := 7) (by decide) (fun _ => rfl) (ok_X9_span 0 (xs (i + nI 1).toNatClampNeg) σ q g0) ?_
  refine lx_am hC (lx_dec (e := (901, .aload_n 2, 1, 0)) lx_r13_ok (List.mem_of_getElem? (i := 33) rfl)) ?_
  refine lx_arg hC (j := nI 1) (lx_dec (e := (902, .aload_n 0, 1, 0)) lx_r13_ok (List.mem_of_getElem? (i := 34) rfl)) (lx_dec (e := (903, .iload_n 3, 1, 0)) lx_r13_ok (List.mem_of_getElem? (i := 35) rfl)) (lx_dec (e := (904, .iconst 1, 1, 0)) lx_r13_ok (List.mem_of_getElem? (i := 36) rfl)) (by decide) (lx_dec (e := (905, .iadd, 1, 0)) lx_r13_ok (List.mem_of_getElem? (i := 37) rfl)) (lx_dec (e := (906, .iaload, 1, 0)) lx_r13_ok (List.mem_of_getElem? (i := 38) rfl)) (hin _ (by decide) (by decide)) ?_
  refine lx_c1 hC (Mt := mX10_span) [xs (i + nI 1).toNatClampNeg] (v := .int z.1) (rest := [.int q.1]) (lx_dec (e := (907, .invokevirtual 109, 3, 0)) lx_r13_ok (List.mem_of_getElem? (i := 39) rfl)) (List.mem_of_getElem? (i := 1318) (by decide +kernel)) mw_X10_span rfl rfl rfl (Nat.le_of_ble_eq_true rfl) (d := 6) (by decide) (fun _ => rfl) (ok_X10_span 0 (xs (i + nI 1).toNatClampNeg) τ z g1) ?_
  rw [ez]
  exact lx_eq hC (lx_dec (e := (910, .if_icmp .eq 580, 3, 0)) lx_r14_ok (List.mem_of_getElem? (i := 0) rfl)) (by decide) k
set_option maxHeartbeats 1000000 in
theorem lx_k23 {p : Program} {l : Launch} {e : Env} {s : State} {m : MethodId} {below : List Frame} {meth : Method} {c : Code} {b L : Nat} {xs : Nat → Int32} {D : va_G} {ca : Nat → ClassId} {ad0 ad1 : Nat → Nat} {tk : Nat} (hC : lx_C p s m meth c b L xs D ca ad0 ad1 tk) {i : Int32} {σ τ σ1 τ1 : rf_S} {v : Value} (hin : ∀ j : Int32, 0 < j → j ≤ 5 → vp_in (i + j) L) (a : Nat → Int32) (ha : ∀ j : Nat, j < 6 → a j = xs (i + nI j).toNatClampNeg) (h0 : opC 23 a σ = some (v, σ1)) (h1 : opM 23 a τ = some (v, τ1)) (k : lx_W p l e s m below meth c b D ca ad0 ad1 1490 i [] σ1 τ1) : lx_W p l e s m below meth c b D ca ad0 ad1 915 i [] σ τ := by
  have h0 : (f_X9_spanBy (a 1) (a 2) σ).map (fun q => (Value.int q, σ)) = some (v, σ1) := h0
  have h1 : (f_X10_spanBy (a 1) (a 2) τ).map (fun q => (Value.int q, τ)) = some (v, τ1) := h1
  obtain ⟨q, g0, e0⟩ := Option.map_eq_some_iff.mp h0
  obtain ⟨z, g1, e1⟩ := Option.map_eq_some_iff.mp h1
  have ev0 := congrArg Prod.fst e0
  have es0 := congrArg Prod.snd e0
  have ev1 := congrArg Prod.fst e1
  have es1 := congrArg Prod.snd e1
  dsimp only at ev0 es0 ev1 es1
  subst es0
  subst es1
  subst ev0
  have ez : z = q := Value.int.inj ev1
  rw [ha 1 (by decide), ha 2 (by decide)] at g0 g1
  refine lx_ax hC (lx_dec (e := (915, .aload_n 1, 1, 0)) lx_r14_ok (List.mem_of_getElem? (i := 3) rfl)) ?_
  refine lx_arg hC (j := nI 1) (lx_dec (e := (916, .aload_n 0, 1, 0)) lx_r14_ok (List.mem_of_getElem? (i := 4) rfl)) (lx_dec (e := (917, .iload_n 3, 1, 0)) lx_r14_ok (List.mem_of_getElem? (i := 5) rfl)) (lx_dec (e := (918, .iconst 1, 1, 0)) lx_r14_ok (List.mem_of_getElem? (i := 6) rfl)) (by decide) (lx_dec (e := (919, .iadd, 1, 0)) lx_r14_ok (List.mem_of_getElem? (i := 7) rfl)) (lx_dec (e := (920, .iaload, 1, 0)) lx_r14_ok (List.mem_of_getElem? (i := 8) rfl)) (hin _ (by decide) (by decide)) ?_
  refine lx_arg hC (j := nI 2) (lx_dec (e := (921, .aload_n 0, 1, 0)) lx_r14_ok (List.mem_of_getElem? (i := 9) rfl)) (lx_dec (e := (922, .iload_n 3, 1, 0)) lx_r14_ok (List.mem_of_getElem? (i := 10) rfl)) (lx_dec (e := (923, .iconst 2, 1, 0)) lx_r14_ok (List.mem_of_getElem? (i := 11) rfl)) (by decide) (lx_dec (e := (924, .iadd, 1, 0)) lx_r14_ok (List.mem_of_getElem? (i := 12) rfl)) (lx_dec (e := (925, .iaload, 1, 0)) lx_r14_ok (List.mem_of_getElem? (i := 13) rfl)) (hin _ (by decide) (by decide)) ?_
  refine lx_c0 hC (Mt := mX9_spanBy) [xs (i + nI 1).toNatClampNeg, xs (i + nI 2).toNatClampNeg] (v := .int q) (lx_dec (e := (926, .invokevirtual 110, 3, 0)) lx_r14_ok (List.mem_of_getElem? (i := 14) rfl)) (List.mem_of_getElem? (i := 771) (by decide +kernel)) mw_X9_spanBy rfl rfl rfl (by decide) (d := 7) (by decide) (fun _ => rfl) (ok_X9_spanBy 0 (xs (i + nI 1).toNatClampNeg) (xs (i + nI 2).toNatClampNeg) σ q g0) ?_
  refine lx_am hC (lx_dec (e := (929, .aload_n 2, 1, 0)) lx_r14_ok (List.mem_of_getElem? (i := 15) rfl)) ?_
  refine lx_arg hC (j := nI 1) (lx_dec (e := (930, .aload_n 0, 1, 0)) lx_r14_ok (List.mem_of_getElem? (i := 16) rfl)) (lx_dec (e := (931, .iload_n 3, 1, 0)) lx_r14_ok (List.mem_of_getElem? (i := 17) rfl)) (lx_dec (e := (932, .iconst 1, 1, 0)) lx_r14_ok (List.mem_of_getElem? (i := 18) rfl)) (by decide) (lx_dec (e := (933, .iadd, 1, 0)) lx_r14_ok (List.mem_of_getElem? (i := 19) rfl)) (lx_dec (e := (934, .iaload, 1, 0)) lx_r14_ok (List.mem_of_getElem? (i := 20) rfl)) (hin _ (by decide) (by decide)) ?_
  refine lx_arg hC (j := nI 2) (lx_dec (e := (935, .aload_n 0, 1, 0)) lx_r14_ok (List.mem_of_getElem? (i := 21) rfl)) (lx_dec (e := (936, .iload_n 3, 1, 0)) lx_r14_ok (List.mem_of_getElem? (i := 22) rfl)) (lx_dec (e := (937, .iconst 2, 1, 0)) lx_r14_ok (List.mem_of_getElem? (i := 23) rfl)) (by decide) (lx_dec (e := (938, .iadd, 1, 0)) lx_r14_ok (List.mem_of_getElem? (i := 24) rfl)) (lx_dec (e := (939, .iaload, 1, 0)) lx_r14_ok (List.mem_of_getElem? (i := 25) rfl)) (hin _ (by decide) (by decide)) ?_
  refine lx_c1 hC (Mt := mX10_spanBy) [xs (i + nI 1).toNatClampNeg, xs (i + nI 2).toNatClampNeg] (v := .int z) (rest := [.int q]) (lx_dec (e := (940, .invokevirtual 113, 3, 0)) lx_r14_ok (List.mem_of_getElem? (i := 26) rfl)) (List.mem_of_getElem? (i := 1326) (by decide +kernel)) mw_X10_spanBy rfl rfl rfl (Nat.le_of_ble_eq_true rfl) (d := 6) (by decide) (fun _ => rfl) (ok_X10_spanBy 0 (xs (i + nI 1).toNatClampNeg) (xs (i + nI 2).toNatClampNeg) τ z g1) ?_
  rw [ez]
  exact lx_eq hC (lx_dec (e := (943, .if_icmp .eq 547, 3, 0)) lx_r14_ok (List.mem_of_getElem? (i := 27) rfl)) (by decide) k
set_option maxHeartbeats 1000000 in
theorem lx_k24 {p : Program} {l : Launch} {e : Env} {s : State} {m : MethodId} {below : List Frame} {meth : Method} {c : Code} {b L : Nat} {xs : Nat → Int32} {D : va_G} {ca : Nat → ClassId} {ad0 ad1 : Nat → Nat} {tk : Nat} (hC : lx_C p s m meth c b L xs D ca ad0 ad1 tk) {i : Int32} {σ τ σ1 τ1 : rf_S} {v : Value} (hin : ∀ j : Int32, 0 < j → j ≤ 5 → vp_in (i + j) L) (a : Nat → Int32) (ha : ∀ j : Nat, j < 6 → a j = xs (i + nI j).toNatClampNeg) (h0 : opC 24 a σ = some (v, σ1)) (h1 : opM 24 a τ = some (v, τ1)) (k : lx_W p l e s m below meth c b D ca ad0 ad1 1490 i [] σ1 τ1) : lx_W p l e s m below meth c b D ca ad0 ad1 948 i [] σ τ := by
  have h0 : (f_X9_known σ).map (fun q => (Value.int q, σ)) = some (v, σ1) := h0
  have h1 : (f_X10_known τ).map (fun q => (Value.int q, τ)) = some (v, τ1) := h1
  obtain ⟨q, g0, e0⟩ := Option.map_eq_some_iff.mp h0
  obtain ⟨z, g1, e1⟩ := Option.map_eq_some_iff.mp h1
  have ev0 := congrArg Prod.fst e0
  have es0 := congrArg Prod.snd e0
  have ev1 := congrArg Prod.fst e1
  have es1 := congrArg Prod.snd e1
  dsimp only at ev0 es0 ev1 es1
  subst es0
  subst es1
  subst ev0
  have ez : z = q := Value.int.inj ev1
  refine lx_ax hC (lx_dec (e := (948, .aload_n 1, 1, 0)) lx_r14_ok (List.mem_of_getElem? (i := 30) rfl)) ?_
  refine lx_c0 hC (Mt := mX9_known) [] (v := .int q) (lx_dec (e := (949, .invokevirtual 114, 3, 0)) lx_r14_ok (List.mem_of_getElem? (i := 31) rfl)) (List.mem_of_getElem? (i := 783) (by decide +kernel)) mw_X9_known rfl rfl rfl (by decide) (d := 7) (by decide) (fun _ => rfl) (ok_X9_known 0  σ q g0) ?_
  refine lx_am hC (lx_dec (e := (952, .aload_n 2, 1, 0)) lx_r14_ok (List.mem_of_getElem? (i := 32) rfl)) ?_
  refine lx_c1 hC (Mt := mX10_known) [] (v := .int z) (rest := [.int q]) (lx_dec (e := (953, .invokevirtual 117, 3, 0)) lx_r14_ok (List.mem_of_getElem? (i := 33) rfl)) (List.mem_of_getElem? (i := 1334) (by decide +kernel)) mw_X10_known rfl rfl rfl (Nat.le_of_ble_eq_true rfl) (d := 7) (by decide) (fun _ => rfl) (ok_X10_known 0  τ z g1) ?_
  rw [ez]
  exact lx_eq hC (lx_dec (e := (956, .if_icmp .eq 534, 3, 0)) lx_r14_ok (List.mem_of_getElem? (i := 34) rfl)) (by decide) k
set_option maxHeartbeats 1000000 in
theorem lx_k25 {p : Program} {l : Launch} {e : Env} {s : State} {m : MethodId} {below : List Frame} {meth : Method} {c : Code} {b L : Nat} {xs : Nat → Int32} {D : va_G} {ca : Nat → ClassId} {ad0 ad1 : Nat → Nat} {tk : Nat} (hC : lx_C p s m meth c b L xs D ca ad0 ad1 tk) {i : Int32} {σ τ σ1 τ1 : rf_S} {v : Value} (hin : ∀ j : Int32, 0 < j → j ≤ 5 → vp_in (i + j) L) (a : Nat → Int32) (ha : ∀ j : Nat, j < 6 → a j = xs (i + nI j).toNatClampNeg) (h0 : opC 25 a σ = some (v, σ1)) (h1 : opM 25 a τ = some (v, τ1)) (k : lx_W p l e s m below meth c b D ca ad0 ad1 1490 i [] σ1 τ1) : lx_W p l e s m below meth c b D ca ad0 ad1 961 i [] σ τ := by
  have h0 : (f_X9_box (a 1) (a 2) σ).map (fun q => (Value.int q.1, q.2)) = some (v, σ1) := h0
  have h1 : (f_X10_box (a 1) (a 2) τ).map (fun q => (Value.int q.1, q.2)) = some (v, τ1) := h1
  obtain ⟨q, g0, e0⟩ := Option.map_eq_some_iff.mp h0
  obtain ⟨z, g1, e1⟩ := Option.map_eq_some_iff.mp h1
  have ev0 := congrArg Prod.fst e0
  have es0 := congrArg Prod.snd e0
  have ev1 := congrArg Prod.fst e1
  have es1 := congrArg Prod.snd e1
  dsimp only at ev0 es0 ev1 es1
  subst es0
  subst es1
  subst ev0
  have ez : z.1 = q.1 := Value.int.inj ev1
  rw [ha 1 (by decide), ha 2 (by decide)] at g0 g1
  refine lx_ax hC (lx_dec (e := (961, .aload_n 1, 1, 0)) lx_r14_ok (List.mem_of_getElem? (i := 37) rfl)) ?_
  refine lx_arg hC (j := nI 1) (lx_dec (e := (962, .aload_n 0, 1, 0)) lx_r14_ok (List.mem_of_getElem? (i := 38) rfl)) (lx_dec (e := (963, .iload_n 3, 1, 0)) lx_r14_ok (List.mem_of_getElem? (i := 39) rfl)) (lx_dec (e := (964, .iconst 1, 1, 0)) lx_r15_ok (List.mem_of_getElem? (i := 0) rfl)) (by decide) (lx_dec (e := (965, .iadd, 1, 0)) lx_r15_ok (List.mem_of_getElem? (i := 1) rfl)) (lx_dec (e := (966, .iaload, 1, 0)) lx_r15_ok (List.mem_of_getElem? (i := 2) rfl)) (hin _ (by decide) (by decide)) ?_
  refine lx_arg hC (j := nI 2) (lx_dec (e := (967, .aload_n 0, 1, 0)) lx_r15_ok (List.mem_of_getElem? (i := 3) rfl)) (lx_dec (e := (968, .iload_n 3, 1, 0)) lx_r15_ok (List.mem_of_getElem? (i := 4) rfl)) (lx_dec (e := (969, .iconst 2, 1, 0)) lx_r15_ok (List.mem_of_getElem? (i := 5) rfl)) (by decide) (lx_dec (e := (970, .iadd, 1, 0)) lx_r15_ok (List.mem_of_getElem? (i := 6) rfl)) (lx_dec (e := (971, .iaload, 1, 0)) lx_r15_ok (List.mem_of_getElem? (i := 7) rfl)) (hin _ (by decide) (by decide)) ?_
  refine lx_c0 hC (Mt := mX9_box) [xs (i + nI 1).toNatClampNeg, xs (i + nI 2).toNatClampNeg] (v := .int q.1) (lx_dec (e := (972, .invokevirtual 118, 3, 0)) lx_r15_ok (List.mem_of_getElem? (i := 8) rfl)) (List.mem_of_getElem? (i := 787) (by decide +kernel)) mw_X9_box rfl rfl rfl (by decide) (d := 7) (by decide) (fun _ => rfl) (ok_X9_box 0 (xs (i + nI 1).toNatClampNeg) (xs (i + nI 2).toNatClampNeg) σ q g0) ?_
  refine lx_am hC (lx_dec (e := (975, .aload_n 2, 1, 0)) lx_r15_ok (List.mem_of_getElem? (i := 9) rfl)) ?_
  refine lx_arg hC (j := nI 1) (lx_dec (e := (976, .aload_n 0, 1, 0)) lx_r15_ok (List.mem_of_getElem? (i := 10) rfl)) (lx_dec (e := (977, .iload_n 3, 1, 0)) lx_r15_ok (List.mem_of_getElem? (i := 11) rfl)) (lx_dec (e := (978, .iconst 1, 1, 0)) lx_r15_ok (List.mem_of_getElem? (i := 12) rfl)) (by decide) (lx_dec (e := (979, .iadd, 1, 0)) lx_r15_ok (List.mem_of_getElem? (i := 13) rfl)) (lx_dec (e := (980, .iaload, 1, 0)) lx_r15_ok (List.mem_of_getElem? (i := 14) rfl)) (hin _ (by decide) (by decide)) ?_
  refine lx_arg hC (j := nI 2) (lx_dec (e := (981, .aload_n 0, 1, 0)) lx_r15_ok (List.mem_of_getElem? (i := 15) rfl)) (lx_dec (e := (982, .iload_n 3, 1, 0)) lx_r15_ok (List.mem_of_getElem? (i := 16) rfl)) (lx_dec (e := (983, .iconst 2, 1, 0)) lx_r15_ok (List.mem_of_getElem? (i := 17) rfl)) (by decide) (lx_dec (e := (984, .iadd, 1, 0)) lx_r15_ok (List.mem_of_getElem? (i := 18) rfl)) (lx_dec (e := (985, .iaload, 1, 0)) lx_r15_ok (List.mem_of_getElem? (i := 19) rfl)) (hin _ (by decide) (by decide)) ?_
  refine lx_c1 hC (Mt := mX10_box) [xs (i + nI 1).toNatClampNeg, xs (i + nI 2).toNatClampNeg] (v := .int z.1) (rest := [.int q.1]) (lx_dec (e := (986, .invokevirtual 121, 3, 0)) lx_r15_ok (List.mem_of_getElem? (i := 20) rfl)) (List.mem_of_getElem? (i := 1342) (by decide +kernel)) mw_X10_box rfl rfl rfl (Nat.le_of_ble_eq_true rfl) (d := 6) (by decide) (fun _ => rfl) (ok_X10_box 0 (xs (i + nI 1).toNatClampNeg) (xs (i + nI 2).toNatClampNeg) τ z g1) ?_
  rw [ez]
  exact lx_eq hC (lx_dec (e := (989, .if_icmp .eq 501, 3, 0)) lx_r15_ok (List.mem_of_getElem? (i := 21) rfl)) (by decide) k
set_option maxHeartbeats 1000000 in
theorem lx_k26 {p : Program} {l : Launch} {e : Env} {s : State} {m : MethodId} {below : List Frame} {meth : Method} {c : Code} {b L : Nat} {xs : Nat → Int32} {D : va_G} {ca : Nat → ClassId} {ad0 ad1 : Nat → Nat} {tk : Nat} (hC : lx_C p s m meth c b L xs D ca ad0 ad1 tk) {i : Int32} {σ τ σ1 τ1 : rf_S} {v : Value} (hin : ∀ j : Int32, 0 < j → j ≤ 5 → vp_in (i + j) L) (a : Nat → Int32) (ha : ∀ j : Nat, j < 6 → a j = xs (i + nI j).toNatClampNeg) (h0 : opC 26 a σ = some (v, σ1)) (h1 : opM 26 a τ = some (v, τ1)) (k : lx_W p l e s m below meth c b D ca ad0 ad1 1490 i [] σ1 τ1) : lx_W p l e s m below meth c b D ca ad0 ad1 994 i [] σ τ := by
  have h0 : (f_X9_send (a 1) σ).map (fun q => (Value.int q.1, q.2)) = some (v, σ1) := h0
  have h1 : (f_X10_send (a 1) τ).map (fun q => (Value.int q.1, q.2)) = some (v, τ1) := h1
  obtain ⟨q, g0, e0⟩ := Option.map_eq_some_iff.mp h0
  obtain ⟨z, g1, e1⟩ := Option.map_eq_some_iff.mp h1
  have ev0 := congrArg Prod.fst e0
  have es0 := congrArg Prod.snd e0
  have ev1 := congrArg Prod.fst e1
  have es1 := congrArg Prod.snd e1
  dsimp only at ev0 es0 ev1 es1
  subst es0
  subst es1
  subst ev0
  have ez : z.1 = q.1 := Value.int.inj ev1
  rw [ha 1 (by decide)] at g0 g1
  refine lx_ax hC (lx_dec (e := (994, .aload_n 1, 1, 0)) lx_r15_ok (List.mem_of_getElem? (i := 24) rfl)) ?_
  refine lx_arg hC (j := nI 1) (lx_dec (e := (995, .aload_n 0, 1, 0)) lx_r15_ok (List.mem_of_getElem? (i := 25) rfl)) (lx_dec (e := (996, .iload_n 3, 1, 0)) lx_r15_ok (List.mem_of_getElem? (i := 26) rfl)) (lx_dec (e := (997, .iconst 1, 1, 0)) lx_r15_ok (List.mem_of_getElem? (i := 27) rfl)) (by decide) (lx_dec (e := (998, .iadd, 1, 0)) lx_r15_ok (List.mem_of_getElem? (i := 28) rfl)) (lx_dec (e := (999, .iaload, 1, 0)) lx_r15_ok (List.mem_of_getElem? (i := 29) rfl)) (hin _ (by decide) (by decide)) ?_
  refine lx_c0 hC (Mt := mX9_send) [xs (i + nI 1).toNatClampNeg] (v := .int q.1) (lx_dec (e := (1000, .invokevirtual 122, 3, 0)) lx_r15_ok (List.mem_of_getElem? (i := 30) rfl)) (List.mem_of_getElem? (i := 792) (by decide +kernel)) mw_X9_send rfl rfl rfl (by decide) (d := 13) (by decide) (fun _ => rfl) (ok_X9_send 0 (xs (i + nI 1).toNatClampNeg) σ q g0) ?_
  refine lx_am hC (lx_dec (e := (1003, .aload_n 2, 1, 0)) lx_r15_ok (List.mem_of_getElem? (i := 31) rfl)) ?_
  refine lx_arg hC (j := nI 1) (lx_dec (e := (1004, .aload_n 0, 1, 0)) lx_r15_ok (List.mem_of_getElem? (i := 32) rfl)) (lx_dec (e := (1005, .iload_n 3, 1, 0)) lx_r15_ok (List.mem_of_getElem? (i := 33) rfl)) (lx_dec (e := (1006, .iconst 1, 1, 0)) lx_r15_ok (List.mem_of_getElem? (i := 34) rfl)) (by decide) (lx_dec (e := (1007, .iadd, 1, 0)) lx_r15_ok (List.mem_of_getElem? (i := 35) rfl)) (lx_dec (e := (1008, .iaload, 1, 0)) lx_r15_ok (List.mem_of_getElem? (i := 36) rfl)) (hin _ (by decide) (by decide)) ?_
  refine lx_c1 hC (Mt := mX10_send) [xs (i + nI 1).toNatClampNeg] (v := .int z.1) (rest := [.int q.1]) (lx_dec (e := (1009, .invokevirtual 125, 3, 0)) lx_r15_ok (List.mem_of_getElem? (i := 37) rfl)) (List.mem_of_getElem? (i := 1346) (by decide +kernel)) mw_X10_send rfl rfl rfl (Nat.le_of_ble_eq_true rfl) (d := 7) (by decide) (fun _ => rfl) (ok_X10_send 0 (xs (i + nI 1).toNatClampNeg) τ z g1) ?_
  rw [ez]
  exact lx_eq hC (lx_dec (e := (1012, .if_icmp .eq 478, 3, 0)) lx_r15_ok (List.mem_of_getElem? (i := 38) rfl)) (by decide) k
set_option maxHeartbeats 1000000 in
theorem lx_k27 {p : Program} {l : Launch} {e : Env} {s : State} {m : MethodId} {below : List Frame} {meth : Method} {c : Code} {b L : Nat} {xs : Nat → Int32} {D : va_G} {ca : Nat → ClassId} {ad0 ad1 : Nat → Nat} {tk : Nat} (hC : lx_C p s m meth c b L xs D ca ad0 ad1 tk) {i : Int32} {σ τ σ1 τ1 : rf_S} {v : Value} (hin : ∀ j : Int32, 0 < j → j ≤ 5 → vp_in (i + j) L) (a : Nat → Int32) (ha : ∀ j : Nat, j < 6 → a j = xs (i + nI j).toNatClampNeg) (h0 : opC 27 a σ = some (v, σ1)) (h1 : opM 27 a τ = some (v, τ1)) (k : lx_W p l e s m below meth c b D ca ad0 ad1 1490 i [] σ1 τ1) : lx_W p l e s m below meth c b D ca ad0 ad1 1017 i [] σ τ := by
  have h0 : (f_X9_most (a 1) σ).map (fun q => (Value.int q.1, q.2)) = some (v, σ1) := h0
  have h1 : (f_X10_most (a 1) τ).map (fun q => (Value.int q.1, q.2)) = some (v, τ1) := h1
  obtain ⟨q, g0, e0⟩ := Option.map_eq_some_iff.mp h0
  obtain ⟨z, g1, e1⟩ := Option.map_eq_some_iff.mp h1
  have ev0 := congrArg Prod.fst e0
  have es0 := congrArg Prod.snd e0
  have ev1 := congrArg Prod.fst e1
  have es1 := congrArg Prod.snd e1
  dsimp only at ev0 es0 ev1 es1
  subst es0
  subst es1
  subst ev0
  have ez : z.1 = q.1 := Value.int.inj ev1
  rw [ha 1 (by decide)] at g0 g1
  refine lx_ax hC (lx_dec (e := (1017, .aload_n 1, 1, 0)) lx_r16_ok (List.mem_of_getElem? (i := 1) rfl)) ?_
  refine lx_arg hC (j := nI 1) (lx_dec (e := (1018, .aload_n 0, 1, 0)) lx_r16_ok (List.mem_of_getElem? (i := 2) rfl)) (lx_dec (e := (1019, .iload_n 3, 1, 0)) lx_r16_ok (List.mem_of_getElem? (i := 3) rfl)) (lx_dec (e := (1020, .iconst 1, 1, 0)) lx_r16_ok (List.mem_of_getElem? (i := 4) rfl)) (by decide) (lx_dec (e := (1021, .iadd, 1, 0)) lx_r16_ok (List.mem_of_getElem? (i := 5) rfl)) (lx_dec (e := (1022, .iaload, 1, 0)) lx_r16_ok (List.mem_of_getElem? (i := 6) rfl)) (hin _ (by decide) (by decide)) ?_
  refine lx_c0 hC (Mt := mX9_most) [xs (i + nI 1).toNatClampNeg] (v := .int q.1) (lx_dec (e := (1023, .invokevirtual 126, 3, 0)) lx_r16_ok (List.mem_of_getElem? (i := 7) rfl)) (List.mem_of_getElem? (i := 817) (by decide +kernel)) mw_X9_most rfl rfl rfl (by decide) (d := 13) (by decide) (fun _ => rfl) (ok_X9_most 0 (xs (i + nI 1).toNatClampNeg) σ q g0) ?_
  refine lx_am hC (lx_dec (e := (1026, .aload_n 2, 1, 0)) lx_r16_ok (List.mem_of_getElem? (i := 8) rfl)) ?_
  refine lx_arg hC (j := nI 1) (lx_dec (e := (1027, .aload_n 0, 1, 0)) lx_r16_ok (List.mem_of_getElem? (i := 9) rfl)) (lx_dec (e := (1028, .iload_n 3, 1, 0)) lx_r16_ok (List.mem_of_getElem? (i := 10) rfl)) (lx_dec (e := (1029, .iconst 1, 1, 0)) lx_r16_ok (List.mem_of_getElem? (i := 11) rfl)) (by decide) (lx_dec (e := (1030, .iadd, 1, 0)) lx_r16_ok (List.mem_of_getElem? (i := 12) rfl)) (lx_dec (e := (1031, .iaload, 1, 0)) lx_r16_ok (List.mem_of_getElem? (i := 13) rfl)) (hin _ (by decide) (by decide)) ?_
  refine lx_c1 hC (Mt := mX10_most) [xs (i + nI 1).toNatClampNeg] (v := .int z.1) (rest := [.int q.1]) (lx_dec (e := (1032, .invokevirtual 129, 3, 0)) lx_r16_ok (List.mem_of_getElem? (i := 14) rfl)) (List.mem_of_getElem? (i := 1359) (by decide +kernel)) mw_X10_most rfl rfl rfl (Nat.le_of_ble_eq_true rfl) (d := 7) (by decide) (fun _ => rfl) (ok_X10_most 0 (xs (i + nI 1).toNatClampNeg) τ z g1) ?_
  rw [ez]
  exact lx_eq hC (lx_dec (e := (1035, .if_icmp .eq 455, 3, 0)) lx_r16_ok (List.mem_of_getElem? (i := 15) rfl)) (by decide) k
set_option maxHeartbeats 1000000 in
theorem lx_k28 {p : Program} {l : Launch} {e : Env} {s : State} {m : MethodId} {below : List Frame} {meth : Method} {c : Code} {b L : Nat} {xs : Nat → Int32} {D : va_G} {ca : Nat → ClassId} {ad0 ad1 : Nat → Nat} {tk : Nat} (hC : lx_C p s m meth c b L xs D ca ad0 ad1 tk) {i : Int32} {σ τ σ1 τ1 : rf_S} {v : Value} (hin : ∀ j : Int32, 0 < j → j ≤ 5 → vp_in (i + j) L) (a : Nat → Int32) (ha : ∀ j : Nat, j < 6 → a j = xs (i + nI j).toNatClampNeg) (h0 : opC 28 a σ = some (v, σ1)) (h1 : opM 28 a τ = some (v, τ1)) (k : lx_W p l e s m below meth c b D ca ad0 ad1 1490 i [] σ1 τ1) : lx_W p l e s m below meth c b D ca ad0 ad1 1040 i [] σ τ := by
  have h0 : (f_X9_parts (a 1) σ).map (fun q => (Value.int q.1, q.2)) = some (v, σ1) := h0
  have h1 : (f_X10_parts (a 1) τ).map (fun q => (Value.int q.1, q.2)) = some (v, τ1) := h1
  obtain ⟨q, g0, e0⟩ := Option.map_eq_some_iff.mp h0
  obtain ⟨z, g1, e1⟩ := Option.map_eq_some_iff.mp h1
  have ev0 := congrArg Prod.fst e0
  have es0 := congrArg Prod.snd e0
  have ev1 := congrArg Prod.fst e1
  have es1 := congrArg Prod.snd e1
  dsimp only at ev0 es0 ev1 es1
  subst es0
  subst es1
  subst ev0
  have ez : z.1 = q.1 := Value.int.inj ev1
  rw [ha 1 (by decide)] at g0 g1
  refine lx_ax hC (lx_dec (e := (1040, .aload_n 1, 1, 0)) lx_r16_ok (List.mem_of_getElem? (i := 18) rfl)) ?_
  refine lx_arg hC (j := nI 1) (lx_dec (e := (1041, .aload_n 0, 1, 0)) lx_r16_ok (List.mem_of_getElem? (i := 19) rfl)) (lx_dec (e := (1042, .iload_n 3, 1, 0)) lx_r16_ok (List.mem_of_getElem? (i := 20) rfl)) (lx_dec (e := (1043, .iconst 1, 1, 0)) lx_r16_ok (List.mem_of_getElem? (i := 21) rfl)) (by decide) (lx_dec (e := (1044, .iadd, 1, 0)) lx_r16_ok (List.mem_of_getElem? (i := 22) rfl)) (lx_dec (e := (1045, .iaload, 1, 0)) lx_r16_ok (List.mem_of_getElem? (i := 23) rfl)) (hin _ (by decide) (by decide)) ?_
  refine lx_c0 hC (Mt := mX9_parts) [xs (i + nI 1).toNatClampNeg] (v := .int q.1) (lx_dec (e := (1046, .invokevirtual 130, 3, 0)) lx_r16_ok (List.mem_of_getElem? (i := 24) rfl)) (List.mem_of_getElem? (i := 821) (by decide +kernel)) mw_X9_parts rfl rfl rfl (by decide) (d := 5) (by decide) (fun _ => rfl) (ok_X9_parts 0 (xs (i + nI 1).toNatClampNeg) σ q g0) ?_
  refine lx_am hC (lx_dec (e := (1049, .aload_n 2, 1, 0)) lx_r16_ok (List.mem_of_getElem? (i := 25) rfl)) ?_
  refine lx_arg hC (j := nI 1) (lx_dec (e := (1050, .aload_n 0, 1, 0)) lx_r16_ok (List.mem_of_getElem? (i := 26) rfl)) (lx_dec (e := (1051, .iload_n 3, 1, 0)) lx_r16_ok (List.mem_of_getElem? (i := 27) rfl)) (lx_dec (e := (1052, .iconst 1, 1, 0)) lx_r16_ok (List.mem_of_getElem? (i := 28) rfl)) (by decide) (lx_dec (e := (1053, .iadd, 1, 0)) lx_r16_ok (List.mem_of_getElem? (i := 29) rfl)) (lx_dec (e := (1054, .iaload, 1, 0)) lx_r16_ok (List.mem_of_getElem? (i := 30) rfl)) (hin _ (by decide) (by decide)) ?_
  refine lx_c1 hC (Mt := mX10_parts) [xs (i + nI 1).toNatClampNeg] (v := .int z.1) (rest := [.int q.1]) (lx_dec (e := (1055, .invokevirtual 133, 3, 0)) lx_r16_ok (List.mem_of_getElem? (i := 31) rfl)) (List.mem_of_getElem? (i := 1363) (by decide +kernel)) mw_X10_parts rfl rfl rfl (Nat.le_of_ble_eq_true rfl) (d := 8) (by decide) (fun _ => rfl) (ok_X10_parts 0 (xs (i + nI 1).toNatClampNeg) τ z g1) ?_
  rw [ez]
  exact lx_eq hC (lx_dec (e := (1058, .if_icmp .eq 432, 3, 0)) lx_r16_ok (List.mem_of_getElem? (i := 32) rfl)) (by decide) k
set_option maxHeartbeats 1000000 in
theorem lx_k29 {p : Program} {l : Launch} {e : Env} {s : State} {m : MethodId} {below : List Frame} {meth : Method} {c : Code} {b L : Nat} {xs : Nat → Int32} {D : va_G} {ca : Nat → ClassId} {ad0 ad1 : Nat → Nat} {tk : Nat} (hC : lx_C p s m meth c b L xs D ca ad0 ad1 tk) {i : Int32} {σ τ σ1 τ1 : rf_S} {v : Value} (hin : ∀ j : Int32, 0 < j → j ≤ 5 → vp_in (i + j) L) (a : Nat → Int32) (ha : ∀ j : Nat, j < 6 → a j = xs (i + nI j).toNatClampNeg) (h0 : opC 29 a σ = some (v, σ1)) (h1 : opM 29 a τ = some (v, τ1)) (k : lx_W p l e s m below meth c b D ca ad0 ad1 1490 i [] σ1 τ1) : lx_W p l e s m below meth c b D ca ad0 ad1 1063 i [] σ τ := by
  have h0 : (f_X9_fewest σ).map (fun q => (Value.int q.1, q.2)) = some (v, σ1) := h0
  have h1 : (f_X10_fewest τ).map (fun q => (Value.int q.1, q.2)) = some (v, τ1) := h1
  obtain ⟨q, g0, e0⟩ := Option.map_eq_some_iff.mp h0
  obtain ⟨z, g1, e1⟩ := Option.map_eq_some_iff.mp h1
  have ev0 := congrArg Prod.fst e0
  have es0 := congrArg Prod.snd e0
  have ev1 := congrArg Prod.fst e1
  have es1 := congrArg Prod.snd e1
  dsimp only at ev0 es0 ev1 es1
  subst es0
  subst es1
  subst ev0
  have ez : z.1 = q.1 := Value.int.inj ev1
  refine lx_ax hC (lx_dec (e := (1063, .aload_n 1, 1, 0)) lx_r16_ok (List.mem_of_getElem? (i := 35) rfl)) ?_
  refine lx_c0 hC (Mt := mX9_fewest) [] (v := .int q.1) (lx_dec (e := (1064, .invokevirtual 134, 3, 0)) lx_r16_ok (List.mem_of_getElem? (i := 36) rfl)) (List.mem_of_getElem? (i := 837) (by decide +kernel)) mw_X9_fewest rfl rfl rfl (by decide) (d := 5) (by decide) (fun _ => rfl) (ok_X9_fewest 0  σ q g0) ?_
  refine lx_am hC (lx_dec (e := (1067, .aload_n 2, 1, 0)) lx_r16_ok (List.mem_of_getElem? (i := 37) rfl)) ?_
  refine lx_c1 hC (Mt := mX10_fewest) [] (v := .int z.1) (rest := [.int q.1]) (lx_dec (e := (1068, .invokevirtual 137, 3, 0)) lx_r16_ok (List.mem_of_getElem? (i := 38) rfl)) (List.mem_of_getElem? (i := 1379) (by decide +kernel)) mw_X10_fewest rfl rfl rfl (Nat.le_of_ble_eq_true rfl) (d := 8) (by decide) (fun _ => rfl) (ok_X10_fewest 0  τ z g1) ?_
  rw [ez]
  exact lx_eq hC (lx_dec (e := (1071, .if_icmp .eq 419, 3, 0)) lx_r16_ok (List.mem_of_getElem? (i := 39) rfl)) (by decide) k
set_option maxHeartbeats 1000000 in
theorem lx_k30 {p : Program} {l : Launch} {e : Env} {s : State} {m : MethodId} {below : List Frame} {meth : Method} {c : Code} {b L : Nat} {xs : Nat → Int32} {D : va_G} {ca : Nat → ClassId} {ad0 ad1 : Nat → Nat} {tk : Nat} (hC : lx_C p s m meth c b L xs D ca ad0 ad1 tk) {i : Int32} {σ τ σ1 τ1 : rf_S} {v : Value} (hin : ∀ j : Int32, 0 < j → j ≤ 5 → vp_in (i + j) L) (a : Nat → Int32) (ha : ∀ j : Nat, j < 6 → a j = xs (i + nI j).toNatClampNeg) (h0 : opC 30 a σ = some (v, σ1)) (h1 : opM 30 a τ = some (v, τ1)) (k : lx_W p l e s m below meth c b D ca ad0 ad1 1490 i [] σ1 τ1) : lx_W p l e s m below meth c b D ca ad0 ad1 1076 i [] σ τ := by
  have h0 : (f_X9_alike (a 1) σ).map (fun q => (Value.int q, σ)) = some (v, σ1) := h0
  have h1 : (f_X10_alike (a 1) τ).map (fun q => (Value.int q, τ)) = some (v, τ1) := h1
  obtain ⟨q, g0, e0⟩ := Option.map_eq_some_iff.mp h0
  obtain ⟨z, g1, e1⟩ := Option.map_eq_some_iff.mp h1
  have ev0 := congrArg Prod.fst e0
  have es0 := congrArg Prod.snd e0
  have ev1 := congrArg Prod.fst e1
  have es1 := congrArg Prod.snd e1
  dsimp only at ev0 es0 ev1 es1
  subst es0
  subst es1
  subst ev0
  have ez : z = q := Value.int.inj ev1
  rw [ha 1 (by decide)] at g0 g1
  refine lx_ax hC (lx_dec (e := (1076, .aload_n 1, 1, 0)) lx_r17_ok (List.mem_of_getElem? (i := 2) rfl)) ?_
  refine lx_arg hC (j := nI 1) (lx_dec (e := (1077, .aload_n 0, 1, 0)) lx_r17_ok (List.mem_of_getElem? (i := 3) rfl)) (lx_dec (e := (1078, .iload_n 3, 1, 0)) lx_r17_ok (List.mem_of_getElem? (i := 4) rfl)) (lx_dec (e := (1079, .iconst 1, 1, 0)) lx_r17_ok (List.mem_of_getElem? (i := 5) rfl)) (by decide) (lx_dec (e := (1080, .iadd, 1, 0)) lx_r17_ok (List.mem_of_getElem? (i := 6) rfl)) (lx_dec (e := (1081, .iaload, 1, 0)) lx_r17_ok (List.mem_of_getElem? (i := 7) rfl)) (hin _ (by decide) (by decide)) ?_
  refine lx_c0 hC (Mt := mX9_alike) [xs (i + nI 1).toNatClampNeg] (v := .int q) (lx_dec (e := (1082, .invokevirtual 138, 3, 0)) lx_r17_ok (List.mem_of_getElem? (i := 8) rfl)) (List.mem_of_getElem? (i := 841) (by decide +kernel)) mw_X9_alike rfl rfl rfl (by decide) (d := 6) (by decide) (fun _ => rfl) (ok_X9_alike 0 (xs (i + nI 1).toNatClampNeg) σ q g0) ?_
  refine lx_am hC (lx_dec (e := (1085, .aload_n 2, 1, 0)) lx_r17_ok (List.mem_of_getElem? (i := 9) rfl)) ?_
  refine lx_arg hC (j := nI 1) (lx_dec (e := (1086, .aload_n 0, 1, 0)) lx_r17_ok (List.mem_of_getElem? (i := 10) rfl)) (lx_dec (e := (1087, .iload_n 3, 1, 0)) lx_r17_ok (List.mem_of_getElem? (i := 11) rfl)) (lx_dec (e := (1088, .iconst 1, 1, 0)) lx_r17_ok (List.mem_of_getElem? (i := 12) rfl)) (by decide) (lx_dec (e := (1089, .iadd, 1, 0)) lx_r17_ok (List.mem_of_getElem? (i := 13) rfl)) (lx_dec (e := (1090, .iaload, 1, 0)) lx_r17_ok (List.mem_of_getElem? (i := 14) rfl)) (hin _ (by decide) (by decide)) ?_
  refine lx_c1 hC (Mt := mX10_alike) [xs (i + nI 1).toNatClampNeg] (v := .int z) (rest := [.int q]) (lx_dec (e := (1091, .invokevirtual 141, 3, 0)) lx_r17_ok (List.mem_of_getElem? (i := 15) rfl)) (List.mem_of_getElem? (i := 1383) (by decide +kernel)) mw_X10_alike rfl rfl rfl (Nat.le_of_ble_eq_true rfl) (d := 7) (by decide) (fun _ => rfl) (ok_X10_alike 0 (xs (i + nI 1).toNatClampNeg) τ z g1) ?_
  rw [ez]
  exact lx_eq hC (lx_dec (e := (1094, .if_icmp .eq 396, 3, 0)) lx_r17_ok (List.mem_of_getElem? (i := 16) rfl)) (by decide) k
set_option maxHeartbeats 1000000 in
theorem lx_k31 {p : Program} {l : Launch} {e : Env} {s : State} {m : MethodId} {below : List Frame} {meth : Method} {c : Code} {b L : Nat} {xs : Nat → Int32} {D : va_G} {ca : Nat → ClassId} {ad0 ad1 : Nat → Nat} {tk : Nat} (hC : lx_C p s m meth c b L xs D ca ad0 ad1 tk) {i : Int32} {σ τ σ1 τ1 : rf_S} {v : Value} (hin : ∀ j : Int32, 0 < j → j ≤ 5 → vp_in (i + j) L) (a : Nat → Int32) (ha : ∀ j : Nat, j < 6 → a j = xs (i + nI j).toNatClampNeg) (h0 : opC 31 a σ = some (v, σ1)) (h1 : opM 31 a τ = some (v, τ1)) (k : lx_W p l e s m below meth c b D ca ad0 ad1 1490 i [] σ1 τ1) : lx_W p l e s m below meth c b D ca ad0 ad1 1099 i [] σ τ := by
  have h0 : (f_X9_fits (a 1) σ).map (fun q => (Value.int q.1, q.2)) = some (v, σ1) := h0
  have h1 : (f_X10_fits (a 1) τ).map (fun q => (Value.int q.1, q.2)) = some (v, τ1) := h1
  obtain ⟨q, g0, e0⟩ := Option.map_eq_some_iff.mp h0
  obtain ⟨z, g1, e1⟩ := Option.map_eq_some_iff.mp h1
  have ev0 := congrArg Prod.fst e0
  have es0 := congrArg Prod.snd e0
  have ev1 := congrArg Prod.fst e1
  have es1 := congrArg Prod.snd e1
  dsimp only at ev0 es0 ev1 es1
  subst es0
  subst es1
  subst ev0
  have ez : z.1 = q.1 := Value.int.inj ev1
  rw [ha 1 (by decide)] at g0 g1
  refine lx_ax hC (lx_dec (e := (1099, .aload_n 1, 1, 0)) lx_r17_ok (List.mem_of_getElem? (i := 19) rfl)) ?_
  refine lx_arg hC (j := nI 1) (lx_dec (e := (1100, .aload_n 0, 1, 0)) lx_r17_ok (List.mem_of_getElem? (i := 20) rfl)) (lx_dec (e := (1101, .iload_n 3, 1, 0)) lx_r17_ok (List.mem_of_getElem? (i := 21) rfl)) (lx_dec (e := (1102, .iconst 1, 1, 0)) lx_r17_ok (List.mem_of_getElem? (i := 22) rfl)) (by decide) (lx_dec (e := (1103, .iadd, 1, 0)) lx_r17_ok (List.mem_of_getElem? (i := 23) rfl)) (lx_dec (e := (1104, .iaload, 1, 0)) lx_r17_ok (List.mem_of_getElem? (i := 24) rfl)) (hin _ (by decide) (by decide)) ?_
  refine lx_c0 hC (Mt := mX9_fits) [xs (i + nI 1).toNatClampNeg] (v := .int q.1) (lx_dec (e := (1105, .invokevirtual 142, 3, 0)) lx_r17_ok (List.mem_of_getElem? (i := 25) rfl)) (List.mem_of_getElem? (i := 846) (by decide +kernel)) mw_X9_fits rfl rfl rfl (by decide) (d := 5) (by decide) (fun _ => rfl) (ok_X9_fits 0 (xs (i + nI 1).toNatClampNeg) σ q g0) ?_
  refine lx_am hC (lx_dec (e := (1108, .aload_n 2, 1, 0)) lx_r17_ok (List.mem_of_getElem? (i := 26) rfl)) ?_
  refine lx_arg hC (j := nI 1) (lx_dec (e := (1109, .aload_n 0, 1, 0)) lx_r17_ok (List.mem_of_getElem? (i := 27) rfl)) (lx_dec (e := (1110, .iload_n 3, 1, 0)) lx_r17_ok (List.mem_of_getElem? (i := 28) rfl)) (lx_dec (e := (1111, .iconst 1, 1, 0)) lx_r17_ok (List.mem_of_getElem? (i := 29) rfl)) (by decide) (lx_dec (e := (1112, .iadd, 1, 0)) lx_r17_ok (List.mem_of_getElem? (i := 30) rfl)) (lx_dec (e := (1113, .iaload, 1, 0)) lx_r17_ok (List.mem_of_getElem? (i := 31) rfl)) (hin _ (by decide) (by decide)) ?_
  refine lx_c1 hC (Mt := mX10_fits) [xs (i + nI 1).toNatClampNeg] (v := .int z.1) (rest := [.int q.1]) (lx_dec (e := (1114, .invokevirtual 145, 3, 0)) lx_r17_ok (List.mem_of_getElem? (i := 32) rfl)) (List.mem_of_getElem? (i := 1387) (by decide +kernel)) mw_X10_fits rfl rfl rfl (Nat.le_of_ble_eq_true rfl) (d := 5) (by decide) (fun _ => rfl) (ok_X10_fits 0 (xs (i + nI 1).toNatClampNeg) τ z g1) ?_
  rw [ez]
  exact lx_eq hC (lx_dec (e := (1117, .if_icmp .eq 373, 3, 0)) lx_r17_ok (List.mem_of_getElem? (i := 33) rfl)) (by decide) k
set_option maxHeartbeats 1000000 in
theorem lx_k32 {p : Program} {l : Launch} {e : Env} {s : State} {m : MethodId} {below : List Frame} {meth : Method} {c : Code} {b L : Nat} {xs : Nat → Int32} {D : va_G} {ca : Nat → ClassId} {ad0 ad1 : Nat → Nat} {tk : Nat} (hC : lx_C p s m meth c b L xs D ca ad0 ad1 tk) {i : Int32} {σ τ σ1 τ1 : rf_S} {v : Value} (hin : ∀ j : Int32, 0 < j → j ≤ 5 → vp_in (i + j) L) (a : Nat → Int32) (ha : ∀ j : Nat, j < 6 → a j = xs (i + nI j).toNatClampNeg) (h0 : opC 32 a σ = some (v, σ1)) (h1 : opM 32 a τ = some (v, τ1)) (k : lx_W p l e s m below meth c b D ca ad0 ad1 1490 i [] σ1 τ1) : lx_W p l e s m below meth c b D ca ad0 ad1 1122 i [] σ τ := by
  have h0 : (f_X9_tickled (a 1) σ).map (fun q => (Value.int q.1, q.2)) = some (v, σ1) := h0
  have h1 : (f_X10_tickled (a 1) τ).map (fun q => (Value.int q.1, q.2)) = some (v, τ1) := h1
  obtain ⟨q, g0, e0⟩ := Option.map_eq_some_iff.mp h0
  obtain ⟨z, g1, e1⟩ := Option.map_eq_some_iff.mp h1
  have ev0 := congrArg Prod.fst e0
  have es0 := congrArg Prod.snd e0
  have ev1 := congrArg Prod.fst e1
  have es1 := congrArg Prod.snd e1
  dsimp only at ev0 es0 ev1 es1
  subst es0
  subst es1
  subst ev0
  have ez : z.1 = q.1 := Value.int.inj ev1
  rw [ha 1 (by decide)] at g0 g1
  refine lx_ax hC (lx_dec (e := (1122, .aload_n 1, 1, 0)) lx_r17_ok (List.mem_of_getElem? (i := 36) rfl)) ?_
  refine lx_arg hC (j := nI 1) (lx_dec (e := (1123, .aload_n 0, 1, 0)) lx_r17_ok (List.mem_of_getElem? (i := 37) rfl)) (lx_dec (e := (1124, .iload_n 3, 1, 0)) lx_r17_ok (List.mem_of_getElem? (i := 38) rfl)) (lx_dec (e := (1125, .iconst 1, 1, 0)) lx_r17_ok (List.mem_of_getElem? (i := 39) rfl)) (by decide) (lx_dec (e := (1126, .iadd, 1, 0)) lx_r18_ok (List.mem_of_getElem? (i := 0) rfl)) (lx_dec (e := (1127, .iaload, 1, 0)) lx_r18_ok (List.mem_of_getElem? (i := 1) rfl)) (hin _ (by decide) (by decide)) ?_
  refine lx_c0 hC (Mt := mX9_tickled) [xs (i + nI 1).toNatClampNeg] (v := .int q.1) (lx_dec (e := (1128, .invokevirtual 146, 3, 0)) lx_r18_ok (List.mem_of_getElem? (i := 2) rfl)) (List.mem_of_getElem? (i := 867) (by decide +kernel)) mw_X9_tickled rfl rfl rfl (by decide) (d := 5) (by decide) (fun _ => rfl) (ok_X9_tickled 0 (xs (i + nI 1).toNatClampNeg) σ q g0) ?_
  refine lx_am hC (lx_dec (e := (1131, .aload_n 2, 1, 0)) lx_r18_ok (List.mem_of_getElem? (i := 3) rfl)) ?_
  refine lx_arg hC (j := nI 1) (lx_dec (e := (1132, .aload_n 0, 1, 0)) lx_r18_ok (List.mem_of_getElem? (i := 4) rfl)) (lx_dec (e := (1133, .iload_n 3, 1, 0)) lx_r18_ok (List.mem_of_getElem? (i := 5) rfl)) (lx_dec (e := (1134, .iconst 1, 1, 0)) lx_r18_ok (List.mem_of_getElem? (i := 6) rfl)) (by decide) (lx_dec (e := (1135, .iadd, 1, 0)) lx_r18_ok (List.mem_of_getElem? (i := 7) rfl)) (lx_dec (e := (1136, .iaload, 1, 0)) lx_r18_ok (List.mem_of_getElem? (i := 8) rfl)) (hin _ (by decide) (by decide)) ?_
  refine lx_c1 hC (Mt := mX10_tickled) [xs (i + nI 1).toNatClampNeg] (v := .int z.1) (rest := [.int q.1]) (lx_dec (e := (1137, .invokevirtual 149, 3, 0)) lx_r18_ok (List.mem_of_getElem? (i := 9) rfl)) (List.mem_of_getElem? (i := 1399) (by decide +kernel)) mw_X10_tickled rfl rfl rfl (Nat.le_of_ble_eq_true rfl) (d := 5) (by decide) (fun _ => rfl) (ok_X10_tickled 0 (xs (i + nI 1).toNatClampNeg) τ z g1) ?_
  rw [ez]
  exact lx_eq hC (lx_dec (e := (1140, .if_icmp .eq 350, 3, 0)) lx_r18_ok (List.mem_of_getElem? (i := 10) rfl)) (by decide) k
set_option maxHeartbeats 1000000 in
theorem lx_k33 {p : Program} {l : Launch} {e : Env} {s : State} {m : MethodId} {below : List Frame} {meth : Method} {c : Code} {b L : Nat} {xs : Nat → Int32} {D : va_G} {ca : Nat → ClassId} {ad0 ad1 : Nat → Nat} {tk : Nat} (hC : lx_C p s m meth c b L xs D ca ad0 ad1 tk) {i : Int32} {σ τ σ1 τ1 : rf_S} {v : Value} (hin : ∀ j : Int32, 0 < j → j ≤ 5 → vp_in (i + j) L) (a : Nat → Int32) (ha : ∀ j : Nat, j < 6 → a j = xs (i + nI j).toNatClampNeg) (h0 : opC 33 a σ = some (v, σ1)) (h1 : opM 33 a τ = some (v, τ1)) (k : lx_W p l e s m below meth c b D ca ad0 ad1 1490 i [] σ1 τ1) : lx_W p l e s m below meth c b D ca ad0 ad1 1145 i [] σ τ := by
  have h0 : (f_X9_shifts (a 1) (a 2) σ).map (fun q => (Value.int q.1, q.2)) = some (v, σ1) := h0
  have h1 : (f_X10_shifts (a 1) (a 2) τ).map (fun q => (Value.int q.1, q.2)) = some (v, τ1) := h1
  obtain ⟨q, g0, e0⟩ := Option.map_eq_some_iff.mp h0
  obtain ⟨z, g1, e1⟩ := Option.map_eq_some_iff.mp h1
  have ev0 := congrArg Prod.fst e0
  have es0 := congrArg Prod.snd e0
  have ev1 := congrArg Prod.fst e1
  have es1 := congrArg Prod.snd e1
  dsimp only at ev0 es0 ev1 es1
  subst es0
  subst es1
  subst ev0
  have ez : z.1 = q.1 := Value.int.inj ev1
  rw [ha 1 (by decide), ha 2 (by decide)] at g0 g1
  refine lx_ax hC (lx_dec (e := (1145, .aload_n 1, 1, 0)) lx_r18_ok (List.mem_of_getElem? (i := 13) rfl)) ?_
  refine lx_arg hC (j := nI 1) (lx_dec (e := (1146, .aload_n 0, 1, 0)) lx_r18_ok (List.mem_of_getElem? (i := 14) rfl)) (lx_dec (e := (1147, .iload_n 3, 1, 0)) lx_r18_ok (List.mem_of_getElem? (i := 15) rfl)) (lx_dec (e := (1148, .iconst 1, 1, 0)) lx_r18_ok (List.mem_of_getElem? (i := 16) rfl)) (by decide) (lx_dec (e := (1149, .iadd, 1, 0)) lx_r18_ok (List.mem_of_getElem? (i := 17) rfl)) (lx_dec (e := (1150, .iaload, 1, 0)) lx_r18_ok (List.mem_of_getElem? (i := 18) rfl)) (hin _ (by decide) (by decide)) ?_
  refine lx_arg hC (j := nI 2) (lx_dec (e := (1151, .aload_n 0, 1, 0)) lx_r18_ok (List.mem_of_getElem? (i := 19) rfl)) (lx_dec (e := (1152, .iload_n 3, 1, 0)) lx_r18_ok (List.mem_of_getElem? (i := 20) rfl)) (lx_dec (e := (1153, .iconst 2, 1, 0)) lx_r18_ok (List.mem_of_getElem? (i := 21) rfl)) (by decide) (lx_dec (e := (1154, .iadd, 1, 0)) lx_r18_ok (List.mem_of_getElem? (i := 22) rfl)) (lx_dec (e := (1155, .iaload, 1, 0)) lx_r18_ok (List.mem_of_getElem? (i := 23) rfl)) (hin _ (by decide) (by decide)) ?_
  refine lx_c0 hC (Mt := mX9_shifts) [xs (i + nI 1).toNatClampNeg, xs (i + nI 2).toNatClampNeg] (v := .int q.1) (lx_dec (e := (1156, .invokevirtual 150, 3, 0)) lx_r18_ok (List.mem_of_getElem? (i := 24) rfl)) (List.mem_of_getElem? (i := 871) (by decide +kernel)) mw_X9_shifts rfl rfl rfl (by decide) (d := 4) (by decide) (fun _ => rfl) (ok_X9_shifts 0 (xs (i + nI 1).toNatClampNeg) (xs (i + nI 2).toNatClampNeg) σ q g0) ?_
  refine lx_am hC (lx_dec (e := (1159, .aload_n 2, 1, 0)) lx_r18_ok (List.mem_of_getElem? (i := 25) rfl)) ?_
  refine lx_arg hC (j := nI 1) (lx_dec (e := (1160, .aload_n 0, 1, 0)) lx_r18_ok (List.mem_of_getElem? (i := 26) rfl)) (lx_dec (e := (1161, .iload_n 3, 1, 0)) lx_r18_ok (List.mem_of_getElem? (i := 27) rfl)) (lx_dec (e := (1162, .iconst 1, 1, 0)) lx_r18_ok (List.mem_of_getElem? (i := 28) rfl)) (by decide) (lx_dec (e := (1163, .iadd, 1, 0)) lx_r18_ok (List.mem_of_getElem? (i := 29) rfl)) (lx_dec (e := (1164, .iaload, 1, 0)) lx_r18_ok (List.mem_of_getElem? (i := 30) rfl)) (hin _ (by decide) (by decide)) ?_
  refine lx_arg hC (j := nI 2) (lx_dec (e := (1165, .aload_n 0, 1, 0)) lx_r18_ok (List.mem_of_getElem? (i := 31) rfl)) (lx_dec (e := (1166, .iload_n 3, 1, 0)) lx_r18_ok (List.mem_of_getElem? (i := 32) rfl)) (lx_dec (e := (1167, .iconst 2, 1, 0)) lx_r18_ok (List.mem_of_getElem? (i := 33) rfl)) (by decide) (lx_dec (e := (1168, .iadd, 1, 0)) lx_r18_ok (List.mem_of_getElem? (i := 34) rfl)) (lx_dec (e := (1169, .iaload, 1, 0)) lx_r18_ok (List.mem_of_getElem? (i := 35) rfl)) (hin _ (by decide) (by decide)) ?_
  refine lx_c1 hC (Mt := mX10_shifts) [xs (i + nI 1).toNatClampNeg, xs (i + nI 2).toNatClampNeg] (v := .int z.1) (rest := [.int q.1]) (lx_dec (e := (1170, .invokevirtual 153, 3, 0)) lx_r18_ok (List.mem_of_getElem? (i := 36) rfl)) (List.mem_of_getElem? (i := 1403) (by decide +kernel)) mw_X10_shifts rfl rfl rfl (Nat.le_of_ble_eq_true rfl) (d := 3) (by decide) (fun _ => rfl) (ok_X10_shifts 0 (xs (i + nI 1).toNatClampNeg) (xs (i + nI 2).toNatClampNeg) τ z g1) ?_
  rw [ez]
  exact lx_eq hC (lx_dec (e := (1173, .if_icmp .eq 317, 3, 0)) lx_r18_ok (List.mem_of_getElem? (i := 37) rfl)) (by decide) k
set_option maxHeartbeats 1000000 in
theorem lx_k34 {p : Program} {l : Launch} {e : Env} {s : State} {m : MethodId} {below : List Frame} {meth : Method} {c : Code} {b L : Nat} {xs : Nat → Int32} {D : va_G} {ca : Nat → ClassId} {ad0 ad1 : Nat → Nat} {tk : Nat} (hC : lx_C p s m meth c b L xs D ca ad0 ad1 tk) {i : Int32} {σ τ σ1 τ1 : rf_S} {v : Value} (hin : ∀ j : Int32, 0 < j → j ≤ 5 → vp_in (i + j) L) (a : Nat → Int32) (ha : ∀ j : Nat, j < 6 → a j = xs (i + nI j).toNatClampNeg) (h0 : opC 34 a σ = some (v, σ1)) (h1 : opM 34 a τ = some (v, τ1)) (k : lx_W p l e s m below meth c b D ca ad0 ad1 1490 i [] σ1 τ1) : lx_W p l e s m below meth c b D ca ad0 ad1 1178 i [] σ τ := by
  have h0 : (f_X9_kinds (a 1) (a 2) σ).map (fun q => (Value.int q.1, q.2)) = some (v, σ1) := h0
  have h1 : (f_X10_kinds (a 1) (a 2) τ).map (fun q => (Value.int q.1, q.2)) = some (v, τ1) := h1
  obtain ⟨q, g0, e0⟩ := Option.map_eq_some_iff.mp h0
  obtain ⟨z, g1, e1⟩ := Option.map_eq_some_iff.mp h1
  have ev0 := congrArg Prod.fst e0
  have es0 := congrArg Prod.snd e0
  have ev1 := congrArg Prod.fst e1
  have es1 := congrArg Prod.snd e1
  dsimp only at ev0 es0 ev1 es1
  subst es0
  subst es1
  subst ev0
  have ez : z.1 = q.1 := Value.int.inj ev1
  rw [ha 1 (by decide), ha 2 (by decide)] at g0 g1
  refine lx_ax hC (lx_dec (e := (1178, .aload_n 1, 1, 0)) lx_r19_ok (List.mem_of_getElem? (i := 0) rfl)) ?_
  refine lx_arg hC (j := nI 1) (lx_dec (e := (1179, .aload_n 0, 1, 0)) lx_r19_ok (List.mem_of_getElem? (i := 1) rfl)) (lx_dec (e := (1180, .iload_n 3, 1, 0)) lx_r19_ok (List.mem_of_getElem? (i := 2) rfl)) (lx_dec (e := (1181, .iconst 1, 1, 0)) lx_r19_ok (List.mem_of_getElem? (i := 3) rfl)) (by decide) (lx_dec (e := (1182, .iadd, 1, 0)) lx_r19_ok (List.mem_of_getElem? (i := 4) rfl)) (lx_dec (e := (1183, .iaload, 1, 0)) lx_r19_ok (List.mem_of_getElem? (i := 5) rfl)) (hin _ (by decide) (by decide)) ?_
  refine lx_arg hC (j := nI 2) (lx_dec (e := (1184, .aload_n 0, 1, 0)) lx_r19_ok (List.mem_of_getElem? (i := 6) rfl)) (lx_dec (e := (1185, .iload_n 3, 1, 0)) lx_r19_ok (List.mem_of_getElem? (i := 7) rfl)) (lx_dec (e := (1186, .iconst 2, 1, 0)) lx_r19_ok (List.mem_of_getElem? (i := 8) rfl)) (by decide) (lx_dec (e := (1187, .iadd, 1, 0)) lx_r19_ok (List.mem_of_getElem? (i := 9) rfl)) (lx_dec (e := (1188, .iaload, 1, 0)) lx_r19_ok (List.mem_of_getElem? (i := 10) rfl)) (hin _ (by decide) (by decide)) ?_
  refine lx_c0 hC (Mt := mX9_kinds) [xs (i + nI 1).toNatClampNeg, xs (i + nI 2).toNatClampNeg] (v := .int q.1) (lx_dec (e := (1189, .invokevirtual 154, 3, 0)) lx_r19_ok (List.mem_of_getElem? (i := 11) rfl)) (List.mem_of_getElem? (i := 884) (by decide +kernel)) mw_X9_kinds rfl rfl rfl (by decide) (d := 4) (by decide) (fun _ => rfl) (ok_X9_kinds 0 (xs (i + nI 1).toNatClampNeg) (xs (i + nI 2).toNatClampNeg) σ q g0) ?_
  refine lx_am hC (lx_dec (e := (1192, .aload_n 2, 1, 0)) lx_r19_ok (List.mem_of_getElem? (i := 12) rfl)) ?_
  refine lx_arg hC (j := nI 1) (lx_dec (e := (1193, .aload_n 0, 1, 0)) lx_r19_ok (List.mem_of_getElem? (i := 13) rfl)) (lx_dec (e := (1194, .iload_n 3, 1, 0)) lx_r19_ok (List.mem_of_getElem? (i := 14) rfl)) (lx_dec (e := (1195, .iconst 1, 1, 0)) lx_r19_ok (List.mem_of_getElem? (i := 15) rfl)) (by decide) (lx_dec (e := (1196, .iadd, 1, 0)) lx_r19_ok (List.mem_of_getElem? (i := 16) rfl)) (lx_dec (e := (1197, .iaload, 1, 0)) lx_r19_ok (List.mem_of_getElem? (i := 17) rfl)) (hin _ (by decide) (by decide)) ?_
  refine lx_arg hC (j := nI 2) (lx_dec (e := (1198, .aload_n 0, 1, 0)) lx_r19_ok (List.mem_of_getElem? (i := 18) rfl)) (lx_dec (e := (1199, .iload_n 3, 1, 0)) lx_r19_ok (List.mem_of_getElem? (i := 19) rfl)) (lx_dec (e := (1200, .iconst 2, 1, 0)) lx_r19_ok (List.mem_of_getElem? (i := 20) rfl)) (by decide) (lx_dec (e := (1201, .iadd, 1, 0)) lx_r19_ok (List.mem_of_getElem? (i := 21) rfl)) (lx_dec (e := (1202, .iaload, 1, 0)) lx_r19_ok (List.mem_of_getElem? (i := 22) rfl)) (hin _ (by decide) (by decide)) ?_
  refine lx_c1 hC (Mt := mX10_kinds) [xs (i + nI 1).toNatClampNeg, xs (i + nI 2).toNatClampNeg] (v := .int z.1) (rest := [.int q.1]) (lx_dec (e := (1203, .invokevirtual 157, 3, 0)) lx_r19_ok (List.mem_of_getElem? (i := 23) rfl)) (List.mem_of_getElem? (i := 1411) (by decide +kernel)) mw_X10_kinds rfl rfl rfl (Nat.le_of_ble_eq_true rfl) (d := 3) (by decide) (fun _ => rfl) (ok_X10_kinds 0 (xs (i + nI 1).toNatClampNeg) (xs (i + nI 2).toNatClampNeg) τ z g1) ?_
  rw [ez]
  exact lx_eq hC (lx_dec (e := (1206, .if_icmp .eq 284, 3, 0)) lx_r19_ok (List.mem_of_getElem? (i := 24) rfl)) (by decide) k
set_option maxHeartbeats 1000000 in
theorem lx_k35 {p : Program} {l : Launch} {e : Env} {s : State} {m : MethodId} {below : List Frame} {meth : Method} {c : Code} {b L : Nat} {xs : Nat → Int32} {D : va_G} {ca : Nat → ClassId} {ad0 ad1 : Nat → Nat} {tk : Nat} (hC : lx_C p s m meth c b L xs D ca ad0 ad1 tk) {i : Int32} {σ τ σ1 τ1 : rf_S} {v : Value} (hin : ∀ j : Int32, 0 < j → j ≤ 5 → vp_in (i + j) L) (a : Nat → Int32) (ha : ∀ j : Nat, j < 6 → a j = xs (i + nI j).toNatClampNeg) (h0 : opC 35 a σ = some (v, σ1)) (h1 : opM 35 a τ = some (v, τ1)) (k : lx_W p l e s m below meth c b D ca ad0 ad1 1490 i [] σ1 τ1) : lx_W p l e s m below meth c b D ca ad0 ad1 1211 i [] σ τ := by
  have h0 : (f_X9_spreads (a 1) σ).map (fun q => (Value.int q.1, q.2)) = some (v, σ1) := h0
  have h1 : (f_X10_spreads (a 1) τ).map (fun q => (Value.int q.1, q.2)) = some (v, τ1) := h1
  obtain ⟨q, g0, e0⟩ := Option.map_eq_some_iff.mp h0
  obtain ⟨z, g1, e1⟩ := Option.map_eq_some_iff.mp h1
  have ev0 := congrArg Prod.fst e0
  have es0 := congrArg Prod.snd e0
  have ev1 := congrArg Prod.fst e1
  have es1 := congrArg Prod.snd e1
  dsimp only at ev0 es0 ev1 es1
  subst es0
  subst es1
  subst ev0
  have ez : z.1 = q.1 := Value.int.inj ev1
  rw [ha 1 (by decide)] at g0 g1
  refine lx_ax hC (lx_dec (e := (1211, .aload_n 1, 1, 0)) lx_r19_ok (List.mem_of_getElem? (i := 27) rfl)) ?_
  refine lx_arg hC (j := nI 1) (lx_dec (e := (1212, .aload_n 0, 1, 0)) lx_r19_ok (List.mem_of_getElem? (i := 28) rfl)) (lx_dec (e := (1213, .iload_n 3, 1, 0)) lx_r19_ok (List.mem_of_getElem? (i := 29) rfl)) (lx_dec (e := (1214, .iconst 1, 1, 0)) lx_r19_ok (List.mem_of_getElem? (i := 30) rfl)) (by decide) (lx_dec (e := (1215, .iadd, 1, 0)) lx_r19_ok (List.mem_of_getElem? (i := 31) rfl)) (lx_dec (e := (1216, .iaload, 1, 0)) lx_r19_ok (List.mem_of_getElem? (i := 32) rfl)) (hin _ (by decide) (by decide)) ?_
  refine lx_c0 hC (Mt := mX9_spreads) [xs (i + nI 1).toNatClampNeg] (v := .int q.1) (lx_dec (e := (1217, .invokevirtual 158, 3, 0)) lx_r19_ok (List.mem_of_getElem? (i := 33) rfl)) (List.mem_of_getElem? (i := 888) (by decide +kernel)) mw_X9_spreads rfl rfl rfl (by decide) (d := 4) (by decide) (fun _ => rfl) (ok_X9_spreads 0 (xs (i + nI 1).toNatClampNeg) σ q g0) ?_
  refine lx_am hC (lx_dec (e := (1220, .aload_n 2, 1, 0)) lx_r19_ok (List.mem_of_getElem? (i := 34) rfl)) ?_
  refine lx_arg hC (j := nI 1) (lx_dec (e := (1221, .aload_n 0, 1, 0)) lx_r19_ok (List.mem_of_getElem? (i := 35) rfl)) (lx_dec (e := (1222, .iload_n 3, 1, 0)) lx_r19_ok (List.mem_of_getElem? (i := 36) rfl)) (lx_dec (e := (1223, .iconst 1, 1, 0)) lx_r19_ok (List.mem_of_getElem? (i := 37) rfl)) (by decide) (lx_dec (e := (1224, .iadd, 1, 0)) lx_r19_ok (List.mem_of_getElem? (i := 38) rfl)) (lx_dec (e := (1225, .iaload, 1, 0)) lx_r19_ok (List.mem_of_getElem? (i := 39) rfl)) (hin _ (by decide) (by decide)) ?_
  refine lx_c1 hC (Mt := mX10_spreads) [xs (i + nI 1).toNatClampNeg] (v := .int z.1) (rest := [.int q.1]) (lx_dec (e := (1226, .invokevirtual 161, 3, 0)) lx_r20_ok (List.mem_of_getElem? (i := 0) rfl)) (List.mem_of_getElem? (i := 1415) (by decide +kernel)) mw_X10_spreads rfl rfl rfl (Nat.le_of_ble_eq_true rfl) (d := 3) (by decide) (fun _ => rfl) (ok_X10_spreads 0 (xs (i + nI 1).toNatClampNeg) τ z g1) ?_
  rw [ez]
  exact lx_eq hC (lx_dec (e := (1229, .if_icmp .eq 261, 3, 0)) lx_r20_ok (List.mem_of_getElem? (i := 1) rfl)) (by decide) k
set_option maxHeartbeats 1000000 in
theorem lx_k36 {p : Program} {l : Launch} {e : Env} {s : State} {m : MethodId} {below : List Frame} {meth : Method} {c : Code} {b L : Nat} {xs : Nat → Int32} {D : va_G} {ca : Nat → ClassId} {ad0 ad1 : Nat → Nat} {tk : Nat} (hC : lx_C p s m meth c b L xs D ca ad0 ad1 tk) {i : Int32} {σ τ σ1 τ1 : rf_S} {v : Value} (hin : ∀ j : Int32, 0 < j → j ≤ 5 → vp_in (i + j) L) (a : Nat → Int32) (ha : ∀ j : Nat, j < 6 → a j = xs (i + nI j).toNatClampNeg) (h0 : opC 36 a σ = some (v, σ1)) (h1 : opM 36 a τ = some (v, τ1)) (k : lx_W p l e s m below meth c b D ca ad0 ad1 1490 i [] σ1 τ1) : lx_W p l e s m below meth c b D ca ad0 ad1 1234 i [] σ τ := by
  have h0 : (f_X9_soups (a 1) (a 2) (a 3) σ).map (fun q => (Value.int q.1, q.2)) = some (v, σ1) := h0
  have h1 : (f_X10_soups (a 1) (a 2) (a 3) τ).map (fun q => (Value.int q.1, q.2)) = some (v, τ1) := h1
  obtain ⟨q, g0, e0⟩ := Option.map_eq_some_iff.mp h0
  obtain ⟨z, g1, e1⟩ := Option.map_eq_some_iff.mp h1
  have ev0 := congrArg Prod.fst e0
  have es0 := congrArg Prod.snd e0
  have ev1 := congrArg Prod.fst e1
  have es1 := congrArg Prod.snd e1
  dsimp only at ev0 es0 ev1 es1
  subst es0
  subst es1
  subst ev0
  have ez : z.1 = q.1 := Value.int.inj ev1
  rw [ha 1 (by decide), ha 2 (by decide), ha 3 (by decide)] at g0 g1
  refine lx_ax hC (lx_dec (e := (1234, .aload_n 1, 1, 0)) lx_r20_ok (List.mem_of_getElem? (i := 4) rfl)) ?_
  refine lx_arg hC (j := nI 1) (lx_dec (e := (1235, .aload_n 0, 1, 0)) lx_r20_ok (List.mem_of_getElem? (i := 5) rfl)) (lx_dec (e := (1236, .iload_n 3, 1, 0)) lx_r20_ok (List.mem_of_getElem? (i := 6) rfl)) (lx_dec (e := (1237, .iconst 1, 1, 0)) lx_r20_ok (List.mem_of_getElem? (i := 7) rfl)) (by decide) (lx_dec (e := (1238, .iadd, 1, 0)) lx_r20_ok (List.mem_of_getElem? (i := 8) rfl)) (lx_dec (e := (1239, .iaload, 1, 0)) lx_r20_ok (List.mem_of_getElem? (i := 9) rfl)) (hin _ (by decide) (by decide)) ?_
  refine lx_arg hC (j := nI 2) (lx_dec (e := (1240, .aload_n 0, 1, 0)) lx_r20_ok (List.mem_of_getElem? (i := 10) rfl)) (lx_dec (e := (1241, .iload_n 3, 1, 0)) lx_r20_ok (List.mem_of_getElem? (i := 11) rfl)) (lx_dec (e := (1242, .iconst 2, 1, 0)) lx_r20_ok (List.mem_of_getElem? (i := 12) rfl)) (by decide) (lx_dec (e := (1243, .iadd, 1, 0)) lx_r20_ok (List.mem_of_getElem? (i := 13) rfl)) (lx_dec (e := (1244, .iaload, 1, 0)) lx_r20_ok (List.mem_of_getElem? (i := 14) rfl)) (hin _ (by decide) (by decide)) ?_
  refine lx_arg hC (j := nI 3) (lx_dec (e := (1245, .aload_n 0, 1, 0)) lx_r20_ok (List.mem_of_getElem? (i := 15) rfl)) (lx_dec (e := (1246, .iload_n 3, 1, 0)) lx_r20_ok (List.mem_of_getElem? (i := 16) rfl)) (lx_dec (e := (1247, .iconst 3, 1, 0)) lx_r20_ok (List.mem_of_getElem? (i := 17) rfl)) (by decide) (lx_dec (e := (1248, .iadd, 1, 0)) lx_r20_ok (List.mem_of_getElem? (i := 18) rfl)) (lx_dec (e := (1249, .iaload, 1, 0)) lx_r20_ok (List.mem_of_getElem? (i := 19) rfl)) (hin _ (by decide) (by decide)) ?_
  refine lx_c0 hC (Mt := mX9_soups) [xs (i + nI 1).toNatClampNeg, xs (i + nI 2).toNatClampNeg, xs (i + nI 3).toNatClampNeg] (v := .int q.1) (lx_dec (e := (1250, .invokevirtual 162, 3, 0)) lx_r20_ok (List.mem_of_getElem? (i := 20) rfl)) (List.mem_of_getElem? (i := 897) (by decide +kernel)) mw_X9_soups rfl rfl rfl (by decide) (d := 3) (by decide) (fun _ => rfl) (ok_X9_soups 0 (xs (i + nI 1).toNatClampNeg) (xs (i + nI 2).toNatClampNeg) (xs (i + nI 3).toNatClampNeg) σ q g0) ?_
  refine lx_am hC (lx_dec (e := (1253, .aload_n 2, 1, 0)) lx_r20_ok (List.mem_of_getElem? (i := 21) rfl)) ?_
  refine lx_arg hC (j := nI 1) (lx_dec (e := (1254, .aload_n 0, 1, 0)) lx_r20_ok (List.mem_of_getElem? (i := 22) rfl)) (lx_dec (e := (1255, .iload_n 3, 1, 0)) lx_r20_ok (List.mem_of_getElem? (i := 23) rfl)) (lx_dec (e := (1256, .iconst 1, 1, 0)) lx_r20_ok (List.mem_of_getElem? (i := 24) rfl)) (by decide) (lx_dec (e := (1257, .iadd, 1, 0)) lx_r20_ok (List.mem_of_getElem? (i := 25) rfl)) (lx_dec (e := (1258, .iaload, 1, 0)) lx_r20_ok (List.mem_of_getElem? (i := 26) rfl)) (hin _ (by decide) (by decide)) ?_
  refine lx_arg hC (j := nI 2) (lx_dec (e := (1259, .aload_n 0, 1, 0)) lx_r20_ok (List.mem_of_getElem? (i := 27) rfl)) (lx_dec (e := (1260, .iload_n 3, 1, 0)) lx_r20_ok (List.mem_of_getElem? (i := 28) rfl)) (lx_dec (e := (1261, .iconst 2, 1, 0)) lx_r20_ok (List.mem_of_getElem? (i := 29) rfl)) (by decide) (lx_dec (e := (1262, .iadd, 1, 0)) lx_r20_ok (List.mem_of_getElem? (i := 30) rfl)) (lx_dec (e := (1263, .iaload, 1, 0)) lx_r20_ok (List.mem_of_getElem? (i := 31) rfl)) (hin _ (by decide) (by decide)) ?_
  refine lx_arg hC (j := nI 3) (lx_dec (e := (1264, .aload_n 0, 1, 0)) lx_r20_ok (List.mem_of_getElem? (i := 32) rfl)) (lx_dec (e := (1265, .iload_n 3, 1, 0)) lx_r20_ok (List.mem_of_getElem? (i := 33) rfl)) (lx_dec (e := (1266, .iconst 3, 1, 0)) lx_r20_ok (List.mem_of_getElem? (i := 34) rfl)) (by decide) (lx_dec (e := (1267, .iadd, 1, 0)) lx_r20_ok (List.mem_of_getElem? (i := 35) rfl)) (lx_dec (e := (1268, .iaload, 1, 0)) lx_r20_ok (List.mem_of_getElem? (i := 36) rfl)) (hin _ (by decide) (by decide)) ?_
  refine lx_c1 hC (Mt := mX10_soups) [xs (i + nI 1).toNatClampNeg, xs (i + nI 2).toNatClampNeg, xs (i + nI 3).toNatClampNeg] (v := .int z.1) (rest := [.int q.1]) (lx_dec (e := (1269, .invokevirtual 165, 3, 0)) lx_r20_ok (List.mem_of_getElem? (i := 37) rfl)) (List.mem_of_getElem? (i := 1419) (by decide +kernel)) mw_X10_soups rfl rfl rfl (Nat.le_of_ble_eq_true rfl) (d := 5) (by decide) (fun _ => rfl) (ok_X10_soups 0 (xs (i + nI 1).toNatClampNeg) (xs (i + nI 2).toNatClampNeg) (xs (i + nI 3).toNatClampNeg) τ z g1) ?_
  rw [ez]
  exact lx_eq hC (lx_dec (e := (1272, .if_icmp .eq 218, 3, 0)) lx_r20_ok (List.mem_of_getElem? (i := 38) rfl)) (by decide) k
set_option maxHeartbeats 1000000 in
theorem lx_k37 {p : Program} {l : Launch} {e : Env} {s : State} {m : MethodId} {below : List Frame} {meth : Method} {c : Code} {b L : Nat} {xs : Nat → Int32} {D : va_G} {ca : Nat → ClassId} {ad0 ad1 : Nat → Nat} {tk : Nat} (hC : lx_C p s m meth c b L xs D ca ad0 ad1 tk) {i : Int32} {σ τ σ1 τ1 : rf_S} {v : Value} (hin : ∀ j : Int32, 0 < j → j ≤ 5 → vp_in (i + j) L) (a : Nat → Int32) (ha : ∀ j : Nat, j < 6 → a j = xs (i + nI j).toNatClampNeg) (h0 : opC 37 a σ = some (v, σ1)) (h1 : opM 37 a τ = some (v, τ1)) (k : lx_W p l e s m below meth c b D ca ad0 ad1 1490 i [] σ1 τ1) : lx_W p l e s m below meth c b D ca ad0 ad1 1277 i [] σ τ := by
  have h0 : (f_X9_odds (a 1) (a 2) σ).map (fun q => (Value.int q.1, q.2)) = some (v, σ1) := h0
  have h1 : (f_X10_odds (a 1) (a 2) τ).map (fun q => (Value.int q.1, q.2)) = some (v, τ1) := h1
  obtain ⟨q, g0, e0⟩ := Option.map_eq_some_iff.mp h0
  obtain ⟨z, g1, e1⟩ := Option.map_eq_some_iff.mp h1
  have ev0 := congrArg Prod.fst e0
  have es0 := congrArg Prod.snd e0
  have ev1 := congrArg Prod.fst e1
  have es1 := congrArg Prod.snd e1
  dsimp only at ev0 es0 ev1 es1
  subst es0
  subst es1
  subst ev0
  have ez : z.1 = q.1 := Value.int.inj ev1
  rw [ha 1 (by decide), ha 2 (by decide)] at g0 g1
  refine lx_ax hC (lx_dec (e := (1277, .aload_n 1, 1, 0)) lx_r21_ok (List.mem_of_getElem? (i := 1) rfl)) ?_
  refine lx_arg hC (j := nI 1) (lx_dec (e := (1278, .aload_n 0, 1, 0)) lx_r21_ok (List.mem_of_getElem? (i := 2) rfl)) (lx_dec (e := (1279, .iload_n 3, 1, 0)) lx_r21_ok (List.mem_of_getElem? (i := 3) rfl)) (lx_dec (e := (1280, .iconst 1, 1, 0)) lx_r21_ok (List.mem_of_getElem? (i := 4) rfl)) (by decide) (lx_dec (e := (1281, .iadd, 1, 0)) lx_r21_ok (List.mem_of_getElem? (i := 5) rfl)) (lx_dec (e := (1282, .iaload, 1, 0)) lx_r21_ok (List.mem_of_getElem? (i := 6) rfl)) (hin _ (by decide) (by decide)) ?_
  refine lx_arg hC (j := nI 2) (lx_dec (e := (1283, .aload_n 0, 1, 0)) lx_r21_ok (List.mem_of_getElem? (i := 7) rfl)) (lx_dec (e := (1284, .iload_n 3, 1, 0)) lx_r21_ok (List.mem_of_getElem? (i := 8) rfl)) (lx_dec (e := (1285, .iconst 2, 1, 0)) lx_r21_ok (List.mem_of_getElem? (i := 9) rfl)) (by decide) (lx_dec (e := (1286, .iadd, 1, 0)) lx_r21_ok (List.mem_of_getElem? (i := 10) rfl)) (lx_dec (e := (1287, .iaload, 1, 0)) lx_r21_ok (List.mem_of_getElem? (i := 11) rfl)) (hin _ (by decide) (by decide)) ?_
  refine lx_c0 hC (Mt := mX9_odds) [xs (i + nI 1).toNatClampNeg, xs (i + nI 2).toNatClampNeg] (v := .int q.1) (lx_dec (e := (1288, .invokevirtual 166, 3, 0)) lx_r21_ok (List.mem_of_getElem? (i := 12) rfl)) (List.mem_of_getElem? (i := 905) (by decide +kernel)) mw_X9_odds rfl rfl rfl (by decide) (d := 7) (by decide) (fun _ => rfl) (ok_X9_odds 0 (xs (i + nI 1).toNatClampNeg) (xs (i + nI 2).toNatClampNeg) σ q g0) ?_
  refine lx_am hC (lx_dec (e := (1291, .aload_n 2, 1, 0)) lx_r21_ok (List.mem_of_getElem? (i := 13) rfl)) ?_
  refine lx_arg hC (j := nI 1) (lx_dec (e := (1292, .aload_n 0, 1, 0)) lx_r21_ok (List.mem_of_getElem? (i := 14) rfl)) (lx_dec (e := (1293, .iload_n 3, 1, 0)) lx_r21_ok (List.mem_of_getElem? (i := 15) rfl)) (lx_dec (e := (1294, .iconst 1, 1, 0)) lx_r21_ok (List.mem_of_getElem? (i := 16) rfl)) (by decide) (lx_dec (e := (1295, .iadd, 1, 0)) lx_r21_ok (List.mem_of_getElem? (i := 17) rfl)) (lx_dec (e := (1296, .iaload, 1, 0)) lx_r21_ok (List.mem_of_getElem? (i := 18) rfl)) (hin _ (by decide) (by decide)) ?_
  refine lx_arg hC (j := nI 2) (lx_dec (e := (1297, .aload_n 0, 1, 0)) lx_r21_ok (List.mem_of_getElem? (i := 19) rfl)) (lx_dec (e := (1298, .iload_n 3, 1, 0)) lx_r21_ok (List.mem_of_getElem? (i := 20) rfl)) (lx_dec (e := (1299, .iconst 2, 1, 0)) lx_r21_ok (List.mem_of_getElem? (i := 21) rfl)) (by decide) (lx_dec (e := (1300, .iadd, 1, 0)) lx_r21_ok (List.mem_of_getElem? (i := 22) rfl)) (lx_dec (e := (1301, .iaload, 1, 0)) lx_r21_ok (List.mem_of_getElem? (i := 23) rfl)) (hin _ (by decide) (by decide)) ?_
  refine lx_c1 hC (Mt := mX10_odds) [xs (i + nI 1).toNatClampNeg, xs (i + nI 2).toNatClampNeg] (v := .int z.1) (rest := [.int q.1]) (lx_dec (e := (1302, .invokevirtual 169, 3, 0)) lx_r21_ok (List.mem_of_getElem? (i := 24) rfl)) (List.mem_of_getElem? (i := 1427) (by decide +kernel)) mw_X10_odds rfl rfl rfl (Nat.le_of_ble_eq_true rfl) (d := 8) (by decide) (fun _ => rfl) (ok_X10_odds 0 (xs (i + nI 1).toNatClampNeg) (xs (i + nI 2).toNatClampNeg) τ z g1) ?_
  rw [ez]
  exact lx_eq hC (lx_dec (e := (1305, .if_icmp .eq 185, 3, 0)) lx_r21_ok (List.mem_of_getElem? (i := 25) rfl)) (by decide) k
set_option maxHeartbeats 1000000 in
theorem lx_k38 {p : Program} {l : Launch} {e : Env} {s : State} {m : MethodId} {below : List Frame} {meth : Method} {c : Code} {b L : Nat} {xs : Nat → Int32} {D : va_G} {ca : Nat → ClassId} {ad0 ad1 : Nat → Nat} {tk : Nat} (hC : lx_C p s m meth c b L xs D ca ad0 ad1 tk) {i : Int32} {σ τ σ1 τ1 : rf_S} {v : Value} (hin : ∀ j : Int32, 0 < j → j ≤ 5 → vp_in (i + j) L) (a : Nat → Int32) (ha : ∀ j : Nat, j < 6 → a j = xs (i + nI j).toNatClampNeg) (h0 : opC 38 a σ = some (v, σ1)) (h1 : opM 38 a τ = some (v, τ1)) (k : lx_W p l e s m below meth c b D ca ad0 ad1 1490 i [] σ1 τ1) : lx_W p l e s m below meth c b D ca ad0 ad1 1310 i [] σ τ := by
  have h0 : (f_X9_mid (a 1) (a 2) σ).map (fun q => (Value.int q.1, q.2)) = some (v, σ1) := h0
  have h1 : (f_X10_mid (a 1) (a 2) τ).map (fun q => (Value.int q.1, q.2)) = some (v, τ1) := h1
  obtain ⟨q, g0, e0⟩ := Option.map_eq_some_iff.mp h0
  obtain ⟨z, g1, e1⟩ := Option.map_eq_some_iff.mp h1
  have ev0 := congrArg Prod.fst e0
  have es0 := congrArg Prod.snd e0
  have ev1 := congrArg Prod.fst e1
  have es1 := congrArg Prod.snd e1
  dsimp only at ev0 es0 ev1 es1
  subst es0
  subst es1
  subst ev0
  have ez : z.1 = q.1 := Value.int.inj ev1
  rw [ha 1 (by decide), ha 2 (by decide)] at g0 g1
  refine lx_ax hC (lx_dec (e := (1310, .aload_n 1, 1, 0)) lx_r21_ok (List.mem_of_getElem? (i := 28) rfl)) ?_
  refine lx_arg hC (j := nI 1) (lx_dec (e := (1311, .aload_n 0, 1, 0)) lx_r21_ok (List.mem_of_getElem? (i := 29) rfl)) (lx_dec (e := (1312, .iload_n 3, 1, 0)) lx_r21_ok (List.mem_of_getElem? (i := 30) rfl)) (lx_dec (e := (1313, .iconst 1, 1, 0)) lx_r21_ok (List.mem_of_getElem? (i := 31) rfl)) (by decide) (lx_dec (e := (1314, .iadd, 1, 0)) lx_r21_ok (List.mem_of_getElem? (i := 32) rfl)) (lx_dec (e := (1315, .iaload, 1, 0)) lx_r21_ok (List.mem_of_getElem? (i := 33) rfl)) (hin _ (by decide) (by decide)) ?_
  refine lx_arg hC (j := nI 2) (lx_dec (e := (1316, .aload_n 0, 1, 0)) lx_r21_ok (List.mem_of_getElem? (i := 34) rfl)) (lx_dec (e := (1317, .iload_n 3, 1, 0)) lx_r21_ok (List.mem_of_getElem? (i := 35) rfl)) (lx_dec (e := (1318, .iconst 2, 1, 0)) lx_r21_ok (List.mem_of_getElem? (i := 36) rfl)) (by decide) (lx_dec (e := (1319, .iadd, 1, 0)) lx_r21_ok (List.mem_of_getElem? (i := 37) rfl)) (lx_dec (e := (1320, .iaload, 1, 0)) lx_r21_ok (List.mem_of_getElem? (i := 38) rfl)) (hin _ (by decide) (by decide)) ?_
  refine lx_c0 hC (Mt := mX9_mid) [xs (i + nI 1).toNatClampNeg, xs (i + nI 2).toNatClampNeg] (v := .int q.1) (lx_dec (e := (1321, .invokevirtual 170, 3, 0)) lx_r21_ok (List.mem_of_getElem? (i := 39) rfl)) (List.mem_of_getElem? (i := 937) (by decide +kernel)) mw_X9_mid rfl rfl rfl (by decide) (d := 7) (by decide) (fun _ => rfl) (ok_X9_mid 0 (xs (i + nI 1).toNatClampNeg) (xs (i + nI 2).toNatClampNeg) σ q g0) ?_
  refine lx_am hC (lx_dec (e := (1324, .aload_n 2, 1, 0)) lx_r22_ok (List.mem_of_getElem? (i := 0) rfl)) ?_
  refine lx_arg hC (j := nI 1) (lx_dec (e := (1325, .aload_n 0, 1, 0)) lx_r22_ok (List.mem_of_getElem? (i := 1) rfl)) (lx_dec (e := (1326, .iload_n 3, 1, 0)) lx_r22_ok (List.mem_of_getElem? (i := 2) rfl)) (lx_dec (e := (1327, .iconst 1, 1, 0)) lx_r22_ok (List.mem_of_getElem? (i := 3) rfl)) (by decide) (lx_dec (e := (1328, .iadd, 1, 0)) lx_r22_ok (List.mem_of_getElem? (i := 4) rfl)) (lx_dec (e := (1329, .iaload, 1, 0)) lx_r22_ok (List.mem_of_getElem? (i := 5) rfl)) (hin _ (by decide) (by decide)) ?_
  refine lx_arg hC (j := nI 2) (lx_dec (e := (1330, .aload_n 0, 1, 0)) lx_r22_ok (List.mem_of_getElem? (i := 6) rfl)) (lx_dec (e := (1331, .iload_n 3, 1, 0)) lx_r22_ok (List.mem_of_getElem? (i := 7) rfl)) (lx_dec (e := (1332, .iconst 2, 1, 0)) lx_r22_ok (List.mem_of_getElem? (i := 8) rfl)) (by decide) (lx_dec (e := (1333, .iadd, 1, 0)) lx_r22_ok (List.mem_of_getElem? (i := 9) rfl)) (lx_dec (e := (1334, .iaload, 1, 0)) lx_r22_ok (List.mem_of_getElem? (i := 10) rfl)) (hin _ (by decide) (by decide)) ?_
  refine lx_c1 hC (Mt := mX10_mid) [xs (i + nI 1).toNatClampNeg, xs (i + nI 2).toNatClampNeg] (v := .int z.1) (rest := [.int q.1]) (lx_dec (e := (1335, .invokevirtual 173, 3, 0)) lx_r22_ok (List.mem_of_getElem? (i := 11) rfl)) (List.mem_of_getElem? (i := 1440) (by decide +kernel)) mw_X10_mid rfl rfl rfl (Nat.le_of_ble_eq_true rfl) (d := 8) (by decide) (fun _ => rfl) (ok_X10_mid 0 (xs (i + nI 1).toNatClampNeg) (xs (i + nI 2).toNatClampNeg) τ z g1) ?_
  rw [ez]
  exact lx_eq hC (lx_dec (e := (1338, .if_icmp .eq 152, 3, 0)) lx_r22_ok (List.mem_of_getElem? (i := 12) rfl)) (by decide) k
set_option maxHeartbeats 1000000 in
theorem lx_k39 {p : Program} {l : Launch} {e : Env} {s : State} {m : MethodId} {below : List Frame} {meth : Method} {c : Code} {b L : Nat} {xs : Nat → Int32} {D : va_G} {ca : Nat → ClassId} {ad0 ad1 : Nat → Nat} {tk : Nat} (hC : lx_C p s m meth c b L xs D ca ad0 ad1 tk) {i : Int32} {σ τ σ1 τ1 : rf_S} {v : Value} (hin : ∀ j : Int32, 0 < j → j ≤ 5 → vp_in (i + j) L) (a : Nat → Int32) (ha : ∀ j : Nat, j < 6 → a j = xs (i + nI j).toNatClampNeg) (h0 : opC 39 a σ = some (v, σ1)) (h1 : opM 39 a τ = some (v, τ1)) (k : lx_W p l e s m below meth c b D ca ad0 ad1 1490 i [] σ1 τ1) : lx_W p l e s m below meth c b D ca ad0 ad1 1343 i [] σ τ := by
  have h0 : (f_X9_lots (a 1) (a 2) σ).map (fun q => (Value.int q.1, q.2)) = some (v, σ1) := h0
  have h1 : (f_X10_lots (a 1) (a 2) τ).map (fun q => (Value.int q.1, q.2)) = some (v, τ1) := h1
  obtain ⟨q, g0, e0⟩ := Option.map_eq_some_iff.mp h0
  obtain ⟨z, g1, e1⟩ := Option.map_eq_some_iff.mp h1
  have ev0 := congrArg Prod.fst e0
  have es0 := congrArg Prod.snd e0
  have ev1 := congrArg Prod.fst e1
  have es1 := congrArg Prod.snd e1
  dsimp only at ev0 es0 ev1 es1
  subst es0
  subst es1
  subst ev0
  have ez : z.1 = q.1 := Value.int.inj ev1
  rw [ha 1 (by decide), ha 2 (by decide)] at g0 g1
  refine lx_ax hC (lx_dec (e := (1343, .aload_n 1, 1, 0)) lx_r22_ok (List.mem_of_getElem? (i := 15) rfl)) ?_
  refine lx_arg hC (j := nI 1) (lx_dec (e := (1344, .aload_n 0, 1, 0)) lx_r22_ok (List.mem_of_getElem? (i := 16) rfl)) (lx_dec (e := (1345, .iload_n 3, 1, 0)) lx_r22_ok (List.mem_of_getElem? (i := 17) rfl)) (lx_dec (e := (1346, .iconst 1, 1, 0)) lx_r22_ok (List.mem_of_getElem? (i := 18) rfl)) (by decide) (lx_dec (e := (1347, .iadd, 1, 0)) lx_r22_ok (List.mem_of_getElem? (i := 19) rfl)) (lx_dec (e := (1348, .iaload, 1, 0)) lx_r22_ok (List.mem_of_getElem? (i := 20) rfl)) (hin _ (by decide) (by decide)) ?_
  refine lx_arg hC (j := nI 2) (lx_dec (e := (1349, .aload_n 0, 1, 0)) lx_r22_ok (List.mem_of_getElem? (i := 21) rfl)) (lx_dec (e := (1350, .iload_n 3, 1, 0)) lx_r22_ok (List.mem_of_getElem? (i := 22) rfl)) (lx_dec (e := (1351, .iconst 2, 1, 0)) lx_r22_ok (List.mem_of_getElem? (i := 23) rfl)) (by decide) (lx_dec (e := (1352, .iadd, 1, 0)) lx_r22_ok (List.mem_of_getElem? (i := 24) rfl)) (lx_dec (e := (1353, .iaload, 1, 0)) lx_r22_ok (List.mem_of_getElem? (i := 25) rfl)) (hin _ (by decide) (by decide)) ?_
  refine lx_c0 hC (Mt := mX9_lots) [xs (i + nI 1).toNatClampNeg, xs (i + nI 2).toNatClampNeg] (v := .int q.1) (lx_dec (e := (1354, .invokevirtual 174, 3, 0)) lx_r22_ok (List.mem_of_getElem? (i := 26) rfl)) (List.mem_of_getElem? (i := 941) (by decide +kernel)) mw_X9_lots rfl rfl rfl (by decide) (d := 7) (by decide) (fun _ => rfl) (ok_X9_lots 0 (xs (i + nI 1).toNatClampNeg) (xs (i + nI 2).toNatClampNeg) σ q g0) ?_
  refine lx_am hC (lx_dec (e := (1357, .aload_n 2, 1, 0)) lx_r22_ok (List.mem_of_getElem? (i := 27) rfl)) ?_
  refine lx_arg hC (j := nI 1) (lx_dec (e := (1358, .aload_n 0, 1, 0)) lx_r22_ok (List.mem_of_getElem? (i := 28) rfl)) (lx_dec (e := (1359, .iload_n 3, 1, 0)) lx_r22_ok (List.mem_of_getElem? (i := 29) rfl)) (lx_dec (e := (1360, .iconst 1, 1, 0)) lx_r22_ok (List.mem_of_getElem? (i := 30) rfl)) (by decide) (lx_dec (e := (1361, .iadd, 1, 0)) lx_r22_ok (List.mem_of_getElem? (i := 31) rfl)) (lx_dec (e := (1362, .iaload, 1, 0)) lx_r22_ok (List.mem_of_getElem? (i := 32) rfl)) (hin _ (by decide) (by decide)) ?_
  refine lx_arg hC (j := nI 2) (lx_dec (e := (1363, .aload_n 0, 1, 0)) lx_r22_ok (List.mem_of_getElem? (i := 33) rfl)) (lx_dec (e := (1364, .iload_n 3, 1, 0)) lx_r22_ok (List.mem_of_getElem? (i := 34) rfl)) (lx_dec (e := (1365, .iconst 2, 1, 0)) lx_r22_ok (List.mem_of_getElem? (i := 35) rfl)) (by decide) (lx_dec (e := (1366, .iadd, 1, 0)) lx_r22_ok (List.mem_of_getElem? (i := 36) rfl)) (lx_dec (e := (1367, .iaload, 1, 0)) lx_r22_ok (List.mem_of_getElem? (i := 37) rfl)) (hin _ (by decide) (by decide)) ?_
  refine lx_c1 hC (Mt := mX10_lots) [xs (i + nI 1).toNatClampNeg, xs (i + nI 2).toNatClampNeg] (v := .int z.1) (rest := [.int q.1]) (lx_dec (e := (1368, .invokevirtual 177, 3, 0)) lx_r22_ok (List.mem_of_getElem? (i := 38) rfl)) (List.mem_of_getElem? (i := 1444) (by decide +kernel)) mw_X10_lots rfl rfl rfl (Nat.le_of_ble_eq_true rfl) (d := 3) (by decide) (fun _ => rfl) (ok_X10_lots 0 (xs (i + nI 1).toNatClampNeg) (xs (i + nI 2).toNatClampNeg) τ z g1) ?_
  rw [ez]
  exact lx_eq hC (lx_dec (e := (1371, .if_icmp .eq 119, 3, 0)) lx_r22_ok (List.mem_of_getElem? (i := 39) rfl)) (by decide) k
set_option maxHeartbeats 1000000 in
theorem lx_k40 {p : Program} {l : Launch} {e : Env} {s : State} {m : MethodId} {below : List Frame} {meth : Method} {c : Code} {b L : Nat} {xs : Nat → Int32} {D : va_G} {ca : Nat → ClassId} {ad0 ad1 : Nat → Nat} {tk : Nat} (hC : lx_C p s m meth c b L xs D ca ad0 ad1 tk) {i : Int32} {σ τ σ1 τ1 : rf_S} {v : Value} (hin : ∀ j : Int32, 0 < j → j ≤ 5 → vp_in (i + j) L) (a : Nat → Int32) (ha : ∀ j : Nat, j < 6 → a j = xs (i + nI j).toNatClampNeg) (h0 : opC 40 a σ = some (v, σ1)) (h1 : opM 40 a τ = some (v, τ1)) (k : lx_W p l e s m below meth c b D ca ad0 ad1 1490 i [] σ1 τ1) : lx_W p l e s m below meth c b D ca ad0 ad1 1376 i [] σ τ := by
  have h0 : (f_X9_asked σ).map (fun q => (Value.int q, σ)) = some (v, σ1) := h0
  have h1 : (f_X10_asked τ).map (fun q => (Value.int q, τ)) = some (v, τ1) := h1
  obtain ⟨q, g0, e0⟩ := Option.map_eq_some_iff.mp h0
  obtain ⟨z, g1, e1⟩ := Option.map_eq_some_iff.mp h1
  have ev0 := congrArg Prod.fst e0
  have es0 := congrArg Prod.snd e0
  have ev1 := congrArg Prod.fst e1
  have es1 := congrArg Prod.snd e1
  dsimp only at ev0 es0 ev1 es1
  subst es0
  subst es1
  subst ev0
  have ez : z = q := Value.int.inj ev1
  refine lx_ax hC (lx_dec (e := (1376, .aload_n 1, 1, 0)) lx_r23_ok (List.mem_of_getElem? (i := 2) rfl)) ?_
  refine lx_c0 hC (Mt := mX9_asked) [] (v := .int q) (lx_dec (e := (1377, .invokevirtual 178, 3, 0)) lx_r23_ok (List.mem_of_getElem? (i := 3) rfl)) (List.mem_of_getElem? (i := 953) (by decide +kernel)) mw_X9_asked rfl rfl rfl (by decide) (d := 1) (by decide) (fun _ => rfl) (ok_X9_asked 0  σ q g0) ?_
  refine lx_am hC (lx_dec (e := (1380, .aload_n 2, 1, 0)) lx_r23_ok (List.mem_of_getElem? (i := 4) rfl)) ?_
  refine lx_c1 hC (Mt := mX10_asked) [] (v := .int z) (rest := [.int q]) (lx_dec (e := (1381, .invokevirtual 181, 3, 0)) lx_r23_ok (List.mem_of_getElem? (i := 5) rfl)) (List.mem_of_getElem? (i := 1453) (by decide +kernel)) mw_X10_asked rfl rfl rfl (Nat.le_of_ble_eq_true rfl) (d := 1) (by decide) (fun _ => rfl) (ok_X10_asked 0  τ z g1) ?_
  rw [ez]
  exact lx_eq hC (lx_dec (e := (1384, .if_icmp .eq 106, 3, 0)) lx_r23_ok (List.mem_of_getElem? (i := 6) rfl)) (by decide) k
set_option maxHeartbeats 1000000 in
theorem lx_k41 {p : Program} {l : Launch} {e : Env} {s : State} {m : MethodId} {below : List Frame} {meth : Method} {c : Code} {b L : Nat} {xs : Nat → Int32} {D : va_G} {ca : Nat → ClassId} {ad0 ad1 : Nat → Nat} {tk : Nat} (hC : lx_C p s m meth c b L xs D ca ad0 ad1 tk) {i : Int32} {σ τ σ1 τ1 : rf_S} {v : Value} (hin : ∀ j : Int32, 0 < j → j ≤ 5 → vp_in (i + j) L) (a : Nat → Int32) (ha : ∀ j : Nat, j < 6 → a j = xs (i + nI j).toNatClampNeg) (h0 : opC 41 a σ = some (v, σ1)) (h1 : opM 41 a τ = some (v, τ1)) (k : lx_W p l e s m below meth c b D ca ad0 ad1 1490 i [] σ1 τ1) : lx_W p l e s m below meth c b D ca ad0 ad1 1389 i [] σ τ := by
  have h0 : (f_X9_upper σ).map (fun q => (Value.long q, σ)) = some (v, σ1) := h0
  have h1 : (f_X10_upper τ).map (fun q => (Value.long q, τ)) = some (v, τ1) := h1
  obtain ⟨q, g0, e0⟩ := Option.map_eq_some_iff.mp h0
  obtain ⟨z, g1, e1⟩ := Option.map_eq_some_iff.mp h1
  have ev0 := congrArg Prod.fst e0
  have es0 := congrArg Prod.snd e0
  have ev1 := congrArg Prod.fst e1
  have es1 := congrArg Prod.snd e1
  dsimp only at ev0 es0 ev1 es1
  subst es0
  subst es1
  subst ev0
  have ez : z = q := Value.long.inj ev1
  refine lx_ax hC (lx_dec (e := (1389, .aload_n 1, 1, 0)) lx_r23_ok (List.mem_of_getElem? (i := 9) rfl)) ?_
  refine lx_c0 hC (Mt := mX9_upper) [] (v := .long q) (lx_dec (e := (1390, .invokevirtual 182, 3, 0)) lx_r23_ok (List.mem_of_getElem? (i := 10) rfl)) (List.mem_of_getElem? (i := 957) (by decide +kernel)) mw_X9_upper rfl rfl rfl (by decide) (d := 1) (by decide) (fun _ => rfl) (ok_X9_upper 0  σ q g0) ?_
  refine lx_am hC (lx_dec (e := (1393, .aload_n 2, 1, 0)) lx_r23_ok (List.mem_of_getElem? (i := 11) rfl)) ?_
  refine lx_c1 hC (Mt := mX10_upper) [] (v := .long z) (rest := [.long q]) (lx_dec (e := (1394, .invokevirtual 186, 3, 0)) lx_r23_ok (List.mem_of_getElem? (i := 12) rfl)) (List.mem_of_getElem? (i := 1457) (by decide +kernel)) mw_X10_upper rfl rfl rfl (Nat.le_of_ble_eq_true rfl) (d := 1) (by decide) (fun _ => rfl) (ok_X10_upper 0  τ z g1) ?_
  rw [ez]
  exact lx_eql hC (lx_dec (e := (1397, .lcmp, 1, 0)) lx_r23_ok (List.mem_of_getElem? (i := 13) rfl)) (lx_dec (e := (1398, .ifCond .eq 92, 3, 0)) lx_r23_ok (List.mem_of_getElem? (i := 14) rfl)) (by decide) k
set_option maxHeartbeats 1000000 in
theorem lx_k42 {p : Program} {l : Launch} {e : Env} {s : State} {m : MethodId} {below : List Frame} {meth : Method} {c : Code} {b L : Nat} {xs : Nat → Int32} {D : va_G} {ca : Nat → ClassId} {ad0 ad1 : Nat → Nat} {tk : Nat} (hC : lx_C p s m meth c b L xs D ca ad0 ad1 tk) {i : Int32} {σ τ σ1 τ1 : rf_S} {v : Value} (hin : ∀ j : Int32, 0 < j → j ≤ 5 → vp_in (i + j) L) (a : Nat → Int32) (ha : ∀ j : Nat, j < 6 → a j = xs (i + nI j).toNatClampNeg) (h0 : opC 42 a σ = some (v, σ1)) (h1 : opM 42 a τ = some (v, τ1)) (k : lx_W p l e s m below meth c b D ca ad0 ad1 1490 i [] σ1 τ1) : lx_W p l e s m below meth c b D ca ad0 ad1 1403 i [] σ τ := by
  have h0 : (f_X9_lower σ).map (fun q => (Value.long q, σ)) = some (v, σ1) := h0
  have h1 : (f_X10_lower τ).map (fun q => (Value.long q, τ)) = some (v, τ1) := h1
  obtain ⟨q, g0, e0⟩ := Option.map_eq_some_iff.mp h0
  obtain ⟨z, g1, e1⟩ := Option.map_eq_some_iff.mp h1
  have ev0 := congrArg Prod.fst e0
  have es0 := congrArg Prod.snd e0
  have ev1 := congrArg Prod.fst e1
  have es1 := congrArg Prod.snd e1
  dsimp only at ev0 es0 ev1 es1
  subst es0
  subst es1
  subst ev0
  have ez : z = q := Value.long.inj ev1
  refine lx_ax hC (lx_dec (e := (1403, .aload_n 1, 1, 0)) lx_r23_ok (List.mem_of_getElem? (i := 17) rfl)) ?_
  refine lx_c0 hC (Mt := mX9_lower) [] (v := .long q) (lx_dec (e := (1404, .invokevirtual 187, 3, 0)) lx_r23_ok (List.mem_of_getElem? (i := 18) rfl)) (List.mem_of_getElem? (i := 961) (by decide +kernel)) mw_X9_lower rfl rfl rfl (by decide) (d := 1) (by decide) (fun _ => rfl) (ok_X9_lower 0  σ q g0) ?_
  refine lx_am hC (lx_dec (e := (1407, .aload_n 2, 1, 0)) lx_r23_ok (List.mem_of_getElem? (i := 19) rfl)) ?_
  refine lx_c1 hC (Mt := mX10_lower) [] (v := .long z) (rest := [.long q]) (lx_dec (e := (1408, .invokevirtual 190, 3, 0)) lx_r23_ok (List.mem_of_getElem? (i := 20) rfl)) (List.mem_of_getElem? (i := 1461) (by decide +kernel)) mw_X10_lower rfl rfl rfl (Nat.le_of_ble_eq_true rfl) (d := 1) (by decide) (fun _ => rfl) (ok_X10_lower 0  τ z g1) ?_
  rw [ez]
  exact lx_eql hC (lx_dec (e := (1411, .lcmp, 1, 0)) lx_r23_ok (List.mem_of_getElem? (i := 21) rfl)) (lx_dec (e := (1412, .ifCond .eq 78, 3, 0)) lx_r23_ok (List.mem_of_getElem? (i := 22) rfl)) (by decide) k
set_option maxHeartbeats 1000000 in
theorem lx_k43 {p : Program} {l : Launch} {e : Env} {s : State} {m : MethodId} {below : List Frame} {meth : Method} {c : Code} {b L : Nat} {xs : Nat → Int32} {D : va_G} {ca : Nat → ClassId} {ad0 ad1 : Nat → Nat} {tk : Nat} (hC : lx_C p s m meth c b L xs D ca ad0 ad1 tk) {i : Int32} {σ τ σ1 τ1 : rf_S} {v : Value} (hin : ∀ j : Int32, 0 < j → j ≤ 5 → vp_in (i + j) L) (a : Nat → Int32) (ha : ∀ j : Nat, j < 6 → a j = xs (i + nI j).toNatClampNeg) (h0 : opC 43 a σ = some (v, σ1)) (h1 : opM 43 a τ = some (v, τ1)) (k : lx_W p l e s m below meth c b D ca ad0 ad1 1490 i [] σ1 τ1) : lx_W p l e s m below meth c b D ca ad0 ad1 1417 i [] σ τ := by
  have h0 : (f_X9_count (a 1) σ).map (fun q => (Value.int q, σ)) = some (v, σ1) := h0
  have h1 : (f_X10_count (a 1) τ).map (fun q => (Value.int q, τ)) = some (v, τ1) := h1
  obtain ⟨q, g0, e0⟩ := Option.map_eq_some_iff.mp h0
  obtain ⟨z, g1, e1⟩ := Option.map_eq_some_iff.mp h1
  have ev0 := congrArg Prod.fst e0
  have es0 := congrArg Prod.snd e0
  have ev1 := congrArg Prod.fst e1
  have es1 := congrArg Prod.snd e1
  dsimp only at ev0 es0 ev1 es1
  subst es0
  subst es1
  subst ev0
  have ez : z = q := Value.int.inj ev1
  rw [ha 1 (by decide)] at g0 g1
  refine lx_ax hC (lx_dec (e := (1417, .aload_n 1, 1, 0)) lx_r23_ok (List.mem_of_getElem? (i := 25) rfl)) ?_
  refine lx_arg hC (j := nI 1) (lx_dec (e := (1418, .aload_n 0, 1, 0)) lx_r23_ok (List.mem_of_getElem? (i := 26) rfl)) (lx_dec (e := (1419, .iload_n 3, 1, 0)) lx_r23_ok (List.mem_of_getElem? (i := 27) rfl)) (lx_dec (e := (1420, .iconst 1, 1, 0)) lx_r23_ok (List.mem_of_getElem? (i := 28) rfl)) (by decide) (lx_dec (e := (1421, .iadd, 1, 0)) lx_r23_ok (List.mem_of_getElem? (i := 29) rfl)) (lx_dec (e := (1422, .iaload, 1, 0)) lx_r23_ok (List.mem_of_getElem? (i := 30) rfl)) (hin _ (by decide) (by decide)) ?_
  refine lx_c0 hC (Mt := mX9_count) [xs (i + nI 1).toNatClampNeg] (v := .int q) (lx_dec (e := (1423, .invokevirtual 191, 3, 0)) lx_r23_ok (List.mem_of_getElem? (i := 31) rfl)) (List.mem_of_getElem? (i := 965) (by decide +kernel)) mw_X9_count rfl rfl rfl (by decide) (d := 6) (by decide) (fun _ => rfl) (ok_X9_count 0 (xs (i + nI 1).toNatClampNeg) σ q g0) ?_
  refine lx_am hC (lx_dec (e := (1426, .aload_n 2, 1, 0)) lx_r23_ok (List.mem_of_getElem? (i := 32) rfl)) ?_
  refine lx_arg hC (j := nI 1) (lx_dec (e := (1427, .aload_n 0, 1, 0)) lx_r23_ok (List.mem_of_getElem? (i := 33) rfl)) (lx_dec (e := (1428, .iload_n 3, 1, 0)) lx_r23_ok (List.mem_of_getElem? (i := 34) rfl)) (lx_dec (e := (1429, .iconst 1, 1, 0)) lx_r23_ok (List.mem_of_getElem? (i := 35) rfl)) (by decide) (lx_dec (e := (1430, .iadd, 1, 0)) lx_r23_ok (List.mem_of_getElem? (i := 36) rfl)) (lx_dec (e := (1431, .iaload, 1, 0)) lx_r23_ok (List.mem_of_getElem? (i := 37) rfl)) (hin _ (by decide) (by decide)) ?_
  refine lx_c1 hC (Mt := mX10_count) [xs (i + nI 1).toNatClampNeg] (v := .int z) (rest := [.int q]) (lx_dec (e := (1432, .invokevirtual 194, 3, 0)) lx_r23_ok (List.mem_of_getElem? (i := 38) rfl)) (List.mem_of_getElem? (i := 1465) (by decide +kernel)) mw_X10_count rfl rfl rfl (Nat.le_of_ble_eq_true rfl) (d := 7) (by decide) (fun _ => rfl) (ok_X10_count 0 (xs (i + nI 1).toNatClampNeg) τ z g1) ?_
  rw [ez]
  exact lx_eq hC (lx_dec (e := (1435, .if_icmp .eq 55, 3, 0)) lx_r23_ok (List.mem_of_getElem? (i := 39) rfl)) (by decide) k
set_option maxHeartbeats 1000000 in
theorem lx_k44 {p : Program} {l : Launch} {e : Env} {s : State} {m : MethodId} {below : List Frame} {meth : Method} {c : Code} {b L : Nat} {xs : Nat → Int32} {D : va_G} {ca : Nat → ClassId} {ad0 ad1 : Nat → Nat} {tk : Nat} (hC : lx_C p s m meth c b L xs D ca ad0 ad1 tk) {i : Int32} {σ τ σ1 τ1 : rf_S} {v : Value} (hin : ∀ j : Int32, 0 < j → j ≤ 5 → vp_in (i + j) L) (a : Nat → Int32) (ha : ∀ j : Nat, j < 6 → a j = xs (i + nI j).toNatClampNeg) (h0 : opC 44 a σ = some (v, σ1)) (h1 : opM 44 a τ = some (v, τ1)) (k : lx_W p l e s m below meth c b D ca ad0 ad1 1490 i [] σ1 τ1) : lx_W p l e s m below meth c b D ca ad0 ad1 1440 i [] σ τ := by
  have h0 : (f_X9_finding σ).map (fun q => (Value.int q, σ)) = some (v, σ1) := h0
  have h1 : (f_X10_finding τ).map (fun q => (Value.int q, τ)) = some (v, τ1) := h1
  obtain ⟨q, g0, e0⟩ := Option.map_eq_some_iff.mp h0
  obtain ⟨z, g1, e1⟩ := Option.map_eq_some_iff.mp h1
  have ev0 := congrArg Prod.fst e0
  have es0 := congrArg Prod.snd e0
  have ev1 := congrArg Prod.fst e1
  have es1 := congrArg Prod.snd e1
  dsimp only at ev0 es0 ev1 es1
  subst es0
  subst es1
  subst ev0
  have ez : z = q := Value.int.inj ev1
  refine lx_ax hC (lx_dec (e := (1440, .aload_n 1, 1, 0)) lx_r24_ok (List.mem_of_getElem? (i := 2) rfl)) ?_
  refine lx_c0 hC (Mt := mX9_finding) [] (v := .int q) (lx_dec (e := (1441, .invokevirtual 195, 3, 0)) lx_r24_ok (List.mem_of_getElem? (i := 3) rfl)) (List.mem_of_getElem? (i := 977) (by decide +kernel)) mw_X9_finding rfl rfl rfl (by decide) (d := 1) (by decide) (fun _ => rfl) (ok_X9_finding 0  σ q g0) ?_
  refine lx_am hC (lx_dec (e := (1444, .aload_n 2, 1, 0)) lx_r24_ok (List.mem_of_getElem? (i := 4) rfl)) ?_
  refine lx_c1 hC (Mt := mX10_finding) [] (v := .int z) (rest := [.int q]) (lx_dec (e := (1445, .invokevirtual 198, 3, 0)) lx_r24_ok (List.mem_of_getElem? (i := 5) rfl)) (List.mem_of_getElem? (i := 1472) (by decide +kernel)) mw_X10_finding rfl rfl rfl (Nat.le_of_ble_eq_true rfl) (d := 1) (by decide) (fun _ => rfl) (ok_X10_finding 0  τ z g1) ?_
  rw [ez]
  exact lx_eq hC (lx_dec (e := (1448, .if_icmp .eq 42, 3, 0)) lx_r24_ok (List.mem_of_getElem? (i := 6) rfl)) (by decide) k
set_option maxHeartbeats 1000000 in
theorem lx_k45 {p : Program} {l : Launch} {e : Env} {s : State} {m : MethodId} {below : List Frame} {meth : Method} {c : Code} {b L : Nat} {xs : Nat → Int32} {D : va_G} {ca : Nat → ClassId} {ad0 ad1 : Nat → Nat} {tk : Nat} (hC : lx_C p s m meth c b L xs D ca ad0 ad1 tk) {i : Int32} {σ τ σ1 τ1 : rf_S} {v : Value} (hin : ∀ j : Int32, 0 < j → j ≤ 5 → vp_in (i + j) L) (a : Nat → Int32) (ha : ∀ j : Nat, j < 6 → a j = xs (i + nI j).toNatClampNeg) (h0 : opC 45 a σ = some (v, σ1)) (h1 : opM 45 a τ = some (v, τ1)) (k : lx_W p l e s m below meth c b D ca ad0 ad1 1490 i [] σ1 τ1) : lx_W p l e s m below meth c b D ca ad0 ad1 1453 i [] σ τ := by
  have h0 : (f_X9_findings (a 1) σ).map (fun q => (Value.int q, σ)) = some (v, σ1) := h0
  have h1 : (f_X10_findings (a 1) τ).map (fun q => (Value.int q, τ)) = some (v, τ1) := h1
  obtain ⟨q, g0, e0⟩ := Option.map_eq_some_iff.mp h0
  obtain ⟨z, g1, e1⟩ := Option.map_eq_some_iff.mp h1
  have ev0 := congrArg Prod.fst e0
  have es0 := congrArg Prod.snd e0
  have ev1 := congrArg Prod.fst e1
  have es1 := congrArg Prod.snd e1
  dsimp only at ev0 es0 ev1 es1
  subst es0
  subst es1
  subst ev0
  have ez : z = q := Value.int.inj ev1
  rw [ha 1 (by decide)] at g0 g1
  refine lx_ax hC (lx_dec (e := (1453, .aload_n 1, 1, 0)) lx_r24_ok (List.mem_of_getElem? (i := 9) rfl)) ?_
  refine lx_arg hC (j := nI 1) (lx_dec (e := (1454, .aload_n 0, 1, 0)) lx_r24_ok (List.mem_of_getElem? (i := 10) rfl)) (lx_dec (e := (1455, .iload_n 3, 1, 0)) lx_r24_ok (List.mem_of_getElem? (i := 11) rfl)) (lx_dec (e := (1456, .iconst 1, 1, 0)) lx_r24_ok (List.mem_of_getElem? (i := 12) rfl)) (by decide) (lx_dec (e := (1457, .iadd, 1, 0)) lx_r24_ok (List.mem_of_getElem? (i := 13) rfl)) (lx_dec (e := (1458, .iaload, 1, 0)) lx_r24_ok (List.mem_of_getElem? (i := 14) rfl)) (hin _ (by decide) (by decide)) ?_
  refine lx_c0 hC (Mt := mX9_findings) [xs (i + nI 1).toNatClampNeg] (v := .int q) (lx_dec (e := (1459, .invokevirtual 199, 3, 0)) lx_r24_ok (List.mem_of_getElem? (i := 15) rfl)) (List.mem_of_getElem? (i := 981) (by decide +kernel)) mw_X9_findings rfl rfl rfl (by decide) (d := 1) (by decide) (fun _ => rfl) (ok_X9_findings 0 (xs (i + nI 1).toNatClampNeg) σ q g0) ?_
  refine lx_am hC (lx_dec (e := (1462, .aload_n 2, 1, 0)) lx_r24_ok (List.mem_of_getElem? (i := 16) rfl)) ?_
  refine lx_arg hC (j := nI 1) (lx_dec (e := (1463, .aload_n 0, 1, 0)) lx_r24_ok (List.mem_of_getElem? (i := 17) rfl)) (lx_dec (e := (1464, .iload_n 3, 1, 0)) lx_r24_ok (List.mem_of_getElem? (i := 18) rfl)) (lx_dec (e := (1465, .iconst 1, 1, 0)) lx_r24_ok (List.mem_of_getElem? (i := 19) rfl)) (by decide) (lx_dec (e := (1466, .iadd, 1, 0)) lx_r24_ok (List.mem_of_getElem? (i := 20) rfl)) (lx_dec (e := (1467, .iaload, 1, 0)) lx_r24_ok (List.mem_of_getElem? (i := 21) rfl)) (hin _ (by decide) (by decide)) ?_
  refine lx_c1 hC (Mt := mX10_findings) [xs (i + nI 1).toNatClampNeg] (v := .int z) (rest := [.int q]) (lx_dec (e := (1468, .invokevirtual 202, 3, 0)) lx_r24_ok (List.mem_of_getElem? (i := 22) rfl)) (List.mem_of_getElem? (i := 1476) (by decide +kernel)) mw_X10_findings rfl rfl rfl (Nat.le_of_ble_eq_true rfl) (d := 2) (by decide) (fun _ => rfl) (ok_X10_findings 0 (xs (i + nI 1).toNatClampNeg) τ z g1) ?_
  rw [ez]
  exact lx_eq hC (lx_dec (e := (1471, .if_icmp .eq 19, 3, 0)) lx_r24_ok (List.mem_of_getElem? (i := 23) rfl)) (by decide) k
set_option maxHeartbeats 1000000 in
theorem lx_k46 {p : Program} {l : Launch} {e : Env} {s : State} {m : MethodId} {below : List Frame} {meth : Method} {c : Code} {b L : Nat} {xs : Nat → Int32} {D : va_G} {ca : Nat → ClassId} {ad0 ad1 : Nat → Nat} {tk : Nat} (hC : lx_C p s m meth c b L xs D ca ad0 ad1 tk) {i : Int32} {σ τ σ1 τ1 : rf_S} {v : Value} (hin : ∀ j : Int32, 0 < j → j ≤ 5 → vp_in (i + j) L) (a : Nat → Int32) (ha : ∀ j : Nat, j < 6 → a j = xs (i + nI j).toNatClampNeg) (h0 : opC 46 a σ = some (v, σ1)) (h1 : opM 46 a τ = some (v, τ1)) (k : lx_W p l e s m below meth c b D ca ad0 ad1 1490 i [] σ1 τ1) : lx_W p l e s m below meth c b D ca ad0 ad1 1476 i [] σ τ := by
  have h0 : (f_X9_digest σ).map (fun q => (Value.long q, σ)) = some (v, σ1) := h0
  have h1 : (f_X10_digest τ).map (fun q => (Value.long q, τ)) = some (v, τ1) := h1
  obtain ⟨q, g0, e0⟩ := Option.map_eq_some_iff.mp h0
  obtain ⟨z, g1, e1⟩ := Option.map_eq_some_iff.mp h1
  have ev0 := congrArg Prod.fst e0
  have es0 := congrArg Prod.snd e0
  have ev1 := congrArg Prod.fst e1
  have es1 := congrArg Prod.snd e1
  dsimp only at ev0 es0 ev1 es1
  subst es0
  subst es1
  subst ev0
  have ez : z = q := Value.long.inj ev1
  refine lx_ax hC (lx_dec (e := (1476, .aload_n 1, 1, 0)) lx_r24_ok (List.mem_of_getElem? (i := 26) rfl)) ?_
  refine lx_c0 hC (Mt := mX9_digest) [] (v := .long q) (lx_dec (e := (1477, .invokevirtual 203, 3, 0)) lx_r24_ok (List.mem_of_getElem? (i := 27) rfl)) (List.mem_of_getElem? (i := 985) (by decide +kernel)) mw_X9_digest rfl rfl rfl (by decide) (d := 7) (by decide) (fun _ => rfl) (ok_X9_digest 0  σ q g0) ?_
  refine lx_am hC (lx_dec (e := (1480, .aload_n 2, 1, 0)) lx_r24_ok (List.mem_of_getElem? (i := 28) rfl)) ?_
  refine lx_c1 hC (Mt := mX10_digest) [] (v := .long z) (rest := [.long q]) (lx_dec (e := (1481, .invokevirtual 206, 3, 0)) lx_r24_ok (List.mem_of_getElem? (i := 29) rfl)) (List.mem_of_getElem? (i := 1480) (by decide +kernel)) mw_X10_digest rfl rfl rfl (Nat.le_of_ble_eq_true rfl) (d := 8) (by decide) (fun _ => rfl) (ok_X10_digest 0  τ z g1) ?_
  rw [ez]
  exact lx_eql hC (lx_dec (e := (1484, .lcmp, 1, 0)) lx_r24_ok (List.mem_of_getElem? (i := 30) rfl)) (lx_dec (e := (1485, .ifCond .eq 5, 3, 0)) lx_r24_ok (List.mem_of_getElem? (i := 31) rfl)) (by decide) k
set_option maxHeartbeats 4000000 in
set_option maxRecDepth 100000 in
/-- THE LAW'S LOOP: at its head, with i ints read, class and reference agree -/
theorem lx_loop {Sim : rf_S → rf_S → Prop} (hsim : ∀ (k : Nat) (a : Nat → Int32) (σ τ : rf_S), k < 47 → Sim σ τ → ∃ v σ1 τ1, opC k a σ = some (v, σ1) ∧ opM k a τ = some (v, τ1) ∧ Sim σ1 τ1) {p : Program} {l : Launch} {e : Env} {s : State} {m : MethodId} {below : List Frame} {meth : Method} {c : Code} {b L : Nat} {xs : Nat → Int32} {D : va_G} {ca : Nat → ClassId} {ad0 ad1 : Nat → Nat} {tk : Nat} (hC : lx_C p s m meth c b L xs D ca ad0 ad1 tk) (hL : L ≤ 3072) : ∀ (n i : Nat) (σ τ : rf_S), i ≤ L + 6 → L + 7 ≤ i + n → Sim σ τ → lx_W p l e s m below meth c b D ca ad0 ad1 18 (nI i) [] σ τ := by
  intro n
  induction n with
  | zero =>
    intro i σ τ h1 h2
    omega
  | succ n ih =>
    intro i σ τ hi hn hI H locs lC hP hQ hS hl
    obtain ⟨hx, hb, hr, hml, hown, hts, hX, hbl, hlocks, hgv⟩ := hC.1
    have hbA : ¬ (fun q : Nat => s.heap.size ≤ q) b := Nat.not_le.mpr hbl
    refine lv_iload_n hx hb (lx_dec (e := (18, .iload_n 3, 1, 0)) lx_r0_ok (List.mem_of_getElem? (i := 10) rfl)) rfl (lv_at hl 3 rfl) ?_
    refine lv_aload_n hx hb (lx_dec (e := (19, .aload_n 0, 1, 0)) lx_r0_ok (List.mem_of_getElem? (i := 11) rfl)) rfl (lv_at hl 0 rfl) ?_
    refine va_slen hx hb hX hbl hbA hS (lx_dec (e := (20, .arraylength, 1, 0)) lx_r0_ok (List.mem_of_getElem? (i := 12) rfl)) ?_
    refine lv_bipush (v := 6) hx hb (lx_dec (e := (21, .bipush 6, 2, 0)) lx_r0_ok (List.mem_of_getElem? (i := 13) rfl)) (by decide) ?_
    refine lv_isub hx hb (lx_dec (e := (23, .isub, 1, 0)) lx_r0_ok (List.mem_of_getElem? (i := 14) rfl)) ?_
    have e1 : (Int32.ofNat L - 6).toInt = (L : Int) - 6 := pk_sub_toInt (a := L) (b := 6) (by omega) (by omega)
    have e2 : (nI i).toInt = (i : Int) := nI_toInt (by omega)
    refine lv_icmp_gt (tgt := 1496) hx hb (lx_dec (e := (24, .if_icmp .gt 1472, 3, 0)) lx_r0_ok (List.mem_of_getElem? (i := 15) rfl)) (by decide) (fun c0 => ?_) (fun c0 => ?_)
    · refine lv_iconst (v := 1) hx hb (lx_dec (e := (1496, .iconst 1, 1, 0)) lx_r24_ok (List.mem_of_getElem? (i := 36) rfl)) (by decide) ?_
      refine va_forget (fun q hq => hS.2.2 q hq) ?_
      exact lw_ret hx hb hr hlocks (lx_dec (e := (1497, .ireturn, 1, 0)) lx_r24_ok (List.mem_of_getElem? (i := 37) rfl))
    · have hle : i + 6 ≤ L := by
        rw [Int32.lt_iff_toInt_lt, e1, e2] at c0
        omega
      refine lv_aload_n hx hb (lx_dec (e := (27, .aload_n 0, 1, 0)) lx_r0_ok (List.mem_of_getElem? (i := 16) rfl)) rfl (lv_at hl 0 rfl) ?_
      refine lv_iload_n hx hb (lx_dec (e := (28, .iload_n 3, 1, 0)) lx_r0_ok (List.mem_of_getElem? (i := 17) rfl)) rfl (lv_at hl 3 rfl) ?_
      refine va_sld hx hb hX hbl hbA hS (vp_in_nI (n := i) (N := L) (by omega) (by omega)) (lx_dec (e := (29, .iaload, 1, 0)) lx_r0_ok (List.mem_of_getElem? (i := 18) rfl)) ?_
      refine lv_bipush (v := 63) hx hb (lx_dec (e := (30, .bipush 63, 2, 0)) lx_r0_ok (List.mem_of_getElem? (i := 19) rfl)) (by decide) ?_
      refine lv_iand hx hb (lx_dec (e := (32, .iand, 1, 0)) lx_r0_ok (List.mem_of_getElem? (i := 20) rfl)) ?_
      obtain ⟨j, hj, ej⟩ := pk_andE (xs (nI i).toNatClampNeg) (m := 63) 6 (by decide)
      rw [ej]
      have hnext : ∀ σ1 τ1, Sim σ1 τ1 → lx_W p l e s m below meth c b D ca ad0 ad1 1490 (nI i) [] σ1 τ1 := by
        intro σ1 τ1 h1
        refine lx_inc hC ?_
        have e6 : nI i + 6 = nI (i + 6) := nI_add i 6
        rw [e6]
        exact ih (i + 6) σ1 τ1 (by omega) (by omega) h1
      have hin : ∀ z : Int32, 0 < z → z ≤ 5 → vp_in (nI i + z) L := by
        intro z h1 h2
        obtain ⟨u, hu, rfl⟩ := nI_of2 (M := 5) (n := 5) rfl (by rw [Int32.not_lt]; exact Int32.le_of_lt h1) h2
        rw [nI_add]
        exact vp_in_nI (by omega) (by omega)
      by_cases hj2 : j < 47
      · obtain ⟨v, σ1, τ1, g0, g1, g2⟩ := hsim j (fun u => xs (nI i + nI u).toNatClampNeg) σ τ hj2 hI
        have hk := hnext σ1 τ1 g2
        have hT0 : nI j = nI j := rfl
        match j, hj2, g0, g1 with
        | 0, _, g0, g1 => exact lv_tableIn (tgt := 236) (off := 203) hx hb (lx_dec (e := (33, .tableswitch 1457 0 46 #[203, 236, 279, 312, 335, 398, 421, 454, 497, 520, 543, 576, 609, 642, 675, 688, 701, 724, 757, 790, 813, 836, 859, 882, 915, 928, 961, 984, 1007, 1030, 1043, 1066, 1089, 1112, 1145, 1178, 1201, 1244, 1277, 1310, 1343, 1356, 1370, 1384, 1407, 1420, 1443], 203, 0)) lx_r0_ok (List.mem_of_getElem? (i := 21) rfl)) (by decide) (by decide) rfl (by decide) (lx_k0 hC hin _ (fun _ _ => rfl) g0 g1 hk H locs lC hP hQ hS hl)
        | 1, _, g0, g1 => exact lv_tableIn (tgt := 269) (off := 236) hx hb (lx_dec (e := (33, .tableswitch 1457 0 46 #[203, 236, 279, 312, 335, 398, 421, 454, 497, 520, 543, 576, 609, 642, 675, 688, 701, 724, 757, 790, 813, 836, 859, 882, 915, 928, 961, 984, 1007, 1030, 1043, 1066, 1089, 1112, 1145, 1178, 1201, 1244, 1277, 1310, 1343, 1356, 1370, 1384, 1407, 1420, 1443], 203, 0)) lx_r0_ok (List.mem_of_getElem? (i := 21) rfl)) (by decide) (by decide) rfl (by decide) (lx_k1 hC hin _ (fun _ _ => rfl) g0 g1 hk H locs lC hP hQ hS hl)
        | 2, _, g0, g1 => exact lv_tableIn (tgt := 312) (off := 279) hx hb (lx_dec (e := (33, .tableswitch 1457 0 46 #[203, 236, 279, 312, 335, 398, 421, 454, 497, 520, 543, 576, 609, 642, 675, 688, 701, 724, 757, 790, 813, 836, 859, 882, 915, 928, 961, 984, 1007, 1030, 1043, 1066, 1089, 1112, 1145, 1178, 1201, 1244, 1277, 1310, 1343, 1356, 1370, 1384, 1407, 1420, 1443], 203, 0)) lx_r0_ok (List.mem_of_getElem? (i := 21) rfl)) (by decide) (by decide) rfl (by decide) (lx_k2 hC hin _ (fun _ _ => rfl) g0 g1 hk H locs lC hP hQ hS hl)
        | 3, _, g0, g1 => exact lv_tableIn (tgt := 345) (off := 312) hx hb (lx_dec (e := (33, .tableswitch 1457 0 46 #[203, 236, 279, 312, 335, 398, 421, 454, 497, 520, 543, 576, 609, 642, 675, 688, 701, 724, 757, 790, 813, 836, 859, 882, 915, 928, 961, 984, 1007, 1030, 1043, 1066, 1089, 1112, 1145, 1178, 1201, 1244, 1277, 1310, 1343, 1356, 1370, 1384, 1407, 1420, 1443], 203, 0)) lx_r0_ok (List.mem_of_getElem? (i := 21) rfl)) (by decide) (by decide) rfl (by decide) (lx_k3 hC hin _ (fun _ _ => rfl) g0 g1 hk H locs lC hP hQ hS hl)
        | 4, _, g0, g1 => exact lv_tableIn (tgt := 368) (off := 335) hx hb (lx_dec (e := (33, .tableswitch 1457 0 46 #[203, 236, 279, 312, 335, 398, 421, 454, 497, 520, 543, 576, 609, 642, 675, 688, 701, 724, 757, 790, 813, 836, 859, 882, 915, 928, 961, 984, 1007, 1030, 1043, 1066, 1089, 1112, 1145, 1178, 1201, 1244, 1277, 1310, 1343, 1356, 1370, 1384, 1407, 1420, 1443], 203, 0)) lx_r0_ok (List.mem_of_getElem? (i := 21) rfl)) (by decide) (by decide) rfl (by decide) (lx_k4 hC hin _ (fun _ _ => rfl) g0 g1 hk H locs lC hP hQ hS hl)
        | 5, _, g0, g1 => exact lv_tableIn (tgt := 431) (off := 398) hx hb (lx_dec (e := (33, .tableswitch 1457 0 46 #[203, 236, 279, 312, 335, 398, 421, 454, 497, 520, 543, 576, 609, 642, 675, 688, 701, 724, 757, 790, 813, 836, 859, 882, 915, 928, 961, 984, 1007, 1030, 1043, 1066, 1089, 1112, 1145, 1178, 1201, 1244, 1277, 1310, 1343, 1356, 1370, 1384, 1407, 1420, 1443], 203, 0)) lx_r0_ok (List.mem_of_getElem? (i := 21) rfl)) (by decide) (by decide) rfl (by decide) (lx_k5 hC hin _ (fun _ _ => rfl) g0 g1 hk H locs lC hP hQ hS hl)
        | 6, _, g0, g1 => exact lv_tableIn (tgt := 454) (off := 421) hx hb (lx_dec (e := (33, .tableswitch 1457 0 46 #[203, 236, 279, 312, 335, 398, 421, 454, 497, 520, 543, 576, 609, 642, 675, 688, 701, 724, 757, 790, 813, 836, 859, 882, 915, 928, 961, 984, 1007, 1030, 1043, 1066, 1089, 1112, 1145, 1178, 1201, 1244, 1277, 1310, 1343, 1356, 1370, 1384, 1407, 1420, 1443], 203, 0)) lx_r0_ok (List.mem_of_getElem? (i := 21) rfl)) (by decide) (by decide) rfl (by decide) (lx_k6 hC hin _ (fun _ _ => rfl) g0 g1 hk H locs lC hP hQ hS hl)
        | 7, _, g0, g1 => exact lv_tableIn (tgt := 487) (off := 454) hx hb (lx_dec (e := (33, .tableswitch 1457 0 46 #[203, 236, 279, 312, 335, 398, 421, 454, 497, 520, 543, 576, 609, 642, 675, 688, 701, 724, 757, 790, 813, 836, 859, 882, 915, 928, 961, 984, 1007, 1030, 1043, 1066, 1089, 1112, 1145, 1178, 1201, 1244, 1277, 1310, 1343, 1356, 1370, 1384, 1407, 1420, 1443], 203, 0)) lx_r0_ok (List.mem_of_getElem? (i := 21) rfl)) (by decide) (by decide) rfl (by decide) (lx_k7 hC hin _ (fun _ _ => rfl) g0 g1 hk H locs lC hP hQ hS hl)
        | 8, _, g0, g1 => exact lv_tableIn (tgt := 530) (off := 497) hx hb (lx_dec (e := (33, .tableswitch 1457 0 46 #[203, 236, 279, 312, 335, 398, 421, 454, 497, 520, 543, 576, 609, 642, 675, 688, 701, 724, 757, 790, 813, 836, 859, 882, 915, 928, 961, 984, 1007, 1030, 1043, 1066, 1089, 1112, 1145, 1178, 1201, 1244, 1277, 1310, 1343, 1356, 1370, 1384, 1407, 1420, 1443], 203, 0)) lx_r0_ok (List.mem_of_getElem? (i := 21) rfl)) (by decide) (by decide) rfl (by decide) (lx_k8 hC hin _ (fun _ _ => rfl) g0 g1 hk H locs lC hP hQ hS hl)
        | 9, _, g0, g1 => exact lv_tableIn (tgt := 553) (off := 520) hx hb (lx_dec (e := (33, .tableswitch 1457 0 46 #[203, 236, 279, 312, 335, 398, 421, 454, 497, 520, 543, 576, 609, 642, 675, 688, 701, 724, 757, 790, 813, 836, 859, 882, 915, 928, 961, 984, 1007, 1030, 1043, 1066, 1089, 1112, 1145, 1178, 1201, 1244, 1277, 1310, 1343, 1356, 1370, 1384, 1407, 1420, 1443], 203, 0)) lx_r0_ok (List.mem_of_getElem? (i := 21) rfl)) (by decide) (by decide) rfl (by decide) (lx_k9 hC hin _ (fun _ _ => rfl) g0 g1 hk H locs lC hP hQ hS hl)
        | 10, _, g0, g1 => exact lv_tableIn (tgt := 576) (off := 543) hx hb (lx_dec (e := (33, .tableswitch 1457 0 46 #[203, 236, 279, 312, 335, 398, 421, 454, 497, 520, 543, 576, 609, 642, 675, 688, 701, 724, 757, 790, 813, 836, 859, 882, 915, 928, 961, 984, 1007, 1030, 1043, 1066, 1089, 1112, 1145, 1178, 1201, 1244, 1277, 1310, 1343, 1356, 1370, 1384, 1407, 1420, 1443], 203, 0)) lx_r0_ok (List.mem_of_getElem? (i := 21) rfl)) (by decide) (by decide) rfl (by decide) (lx_k10 hC hin _ (fun _ _ => rfl) g0 g1 hk H locs lC hP hQ hS hl)
        | 11, _, g0, g1 => exact lv_tableIn (tgt := 609) (off := 576) hx hb (lx_dec (e := (33, .tableswitch 1457 0 46 #[203, 236, 279, 312, 335, 398, 421, 454, 497, 520, 543, 576, 609, 642, 675, 688, 701, 724, 757, 790, 813, 836, 859, 882, 915, 928, 961, 984, 1007, 1030, 1043, 1066, 1089, 1112, 1145, 1178, 1201, 1244, 1277, 1310, 1343, 1356, 1370, 1384, 1407, 1420, 1443], 203, 0)) lx_r0_ok (List.mem_of_getElem? (i := 21) rfl)) (by decide) (by decide) rfl (by decide) (lx_k11 hC hin _ (fun _ _ => rfl) g0 g1 hk H locs lC hP hQ hS hl)
        | 12, _, g0, g1 => exact lv_tableIn (tgt := 642) (off := 609) hx hb (lx_dec (e := (33, .tableswitch 1457 0 46 #[203, 236, 279, 312, 335, 398, 421, 454, 497, 520, 543, 576, 609, 642, 675, 688, 701, 724, 757, 790, 813, 836, 859, 882, 915, 928, 961, 984, 1007, 1030, 1043, 1066, 1089, 1112, 1145, 1178, 1201, 1244, 1277, 1310, 1343, 1356, 1370, 1384, 1407, 1420, 1443], 203, 0)) lx_r0_ok (List.mem_of_getElem? (i := 21) rfl)) (by decide) (by decide) rfl (by decide) (lx_k12 hC hin _ (fun _ _ => rfl) g0 g1 hk H locs lC hP hQ hS hl)
        | 13, _, g0, g1 => exact lv_tableIn (tgt := 675) (off := 642) hx hb (lx_dec (e := (33, .tableswitch 1457 0 46 #[203, 236, 279, 312, 335, 398, 421, 454, 497, 520, 543, 576, 609, 642, 675, 688, 701, 724, 757, 790, 813, 836, 859, 882, 915, 928, 961, 984, 1007, 1030, 1043, 1066, 1089, 1112, 1145, 1178, 1201, 1244, 1277, 1310, 1343, 1356, 1370, 1384, 1407, 1420, 1443], 203, 0)) lx_r0_ok (List.mem_of_getElem? (i := 21) rfl)) (by decide) (by decide) rfl (by decide) (lx_k13 hC hin _ (fun _ _ => rfl) g0 g1 hk H locs lC hP hQ hS hl)
        | 14, _, g0, g1 => exact lv_tableIn (tgt := 708) (off := 675) hx hb (lx_dec (e := (33, .tableswitch 1457 0 46 #[203, 236, 279, 312, 335, 398, 421, 454, 497, 520, 543, 576, 609, 642, 675, 688, 701, 724, 757, 790, 813, 836, 859, 882, 915, 928, 961, 984, 1007, 1030, 1043, 1066, 1089, 1112, 1145, 1178, 1201, 1244, 1277, 1310, 1343, 1356, 1370, 1384, 1407, 1420, 1443], 203, 0)) lx_r0_ok (List.mem_of_getElem? (i := 21) rfl)) (by decide) (by decide) rfl (by decide) (lx_k14 hC hin _ (fun _ _ => rfl) g0 g1 hk H locs lC hP hQ hS hl)
        | 15, _, g0, g1 => exact lv_tableIn (tgt := 721) (off := 688) hx hb (lx_dec (e := (33, .tableswitch 1457 0 46 #[203, 236, 279, 312, 335, 398, 421, 454, 497, 520, 543, 576, 609, 642, 675, 688, 701, 724, 757, 790, 813, 836, 859, 882, 915, 928, 961, 984, 1007, 1030, 1043, 1066, 1089, 1112, 1145, 1178, 1201, 1244, 1277, 1310, 1343, 1356, 1370, 1384, 1407, 1420, 1443], 203, 0)) lx_r0_ok (List.mem_of_getElem? (i := 21) rfl)) (by decide) (by decide) rfl (by decide) (lx_k15 hC hin _ (fun _ _ => rfl) g0 g1 hk H locs lC hP hQ hS hl)
        | 16, _, g0, g1 => exact lv_tableIn (tgt := 734) (off := 701) hx hb (lx_dec (e := (33, .tableswitch 1457 0 46 #[203, 236, 279, 312, 335, 398, 421, 454, 497, 520, 543, 576, 609, 642, 675, 688, 701, 724, 757, 790, 813, 836, 859, 882, 915, 928, 961, 984, 1007, 1030, 1043, 1066, 1089, 1112, 1145, 1178, 1201, 1244, 1277, 1310, 1343, 1356, 1370, 1384, 1407, 1420, 1443], 203, 0)) lx_r0_ok (List.mem_of_getElem? (i := 21) rfl)) (by decide) (by decide) rfl (by decide) (lx_k16 hC hin _ (fun _ _ => rfl) g0 g1 hk H locs lC hP hQ hS hl)
        | 17, _, g0, g1 => exact lv_tableIn (tgt := 757) (off := 724) hx hb (lx_dec (e := (33, .tableswitch 1457 0 46 #[203, 236, 279, 312, 335, 398, 421, 454, 497, 520, 543, 576, 609, 642, 675, 688, 701, 724, 757, 790, 813, 836, 859, 882, 915, 928, 961, 984, 1007, 1030, 1043, 1066, 1089, 1112, 1145, 1178, 1201, 1244, 1277, 1310, 1343, 1356, 1370, 1384, 1407, 1420, 1443], 203, 0)) lx_r0_ok (List.mem_of_getElem? (i := 21) rfl)) (by decide) (by decide) rfl (by decide) (lx_k17 hC hin _ (fun _ _ => rfl) g0 g1 hk H locs lC hP hQ hS hl)
        | 18, _, g0, g1 => exact lv_tableIn (tgt := 790) (off := 757) hx hb (lx_dec (e := (33, .tableswitch 1457 0 46 #[203, 236, 279, 312, 335, 398, 421, 454, 497, 520, 543, 576, 609, 642, 675, 688, 701, 724, 757, 790, 813, 836, 859, 882, 915, 928, 961, 984, 1007, 1030, 1043, 1066, 1089, 1112, 1145, 1178, 1201, 1244, 1277, 1310, 1343, 1356, 1370, 1384, 1407, 1420, 1443], 203, 0)) lx_r0_ok (List.mem_of_getElem? (i := 21) rfl)) (by decide) (by decide) rfl (by decide) (lx_k18 hC hin _ (fun _ _ => rfl) g0 g1 hk H locs lC hP hQ hS hl)
        | 19, _, g0, g1 => exact lv_tableIn (tgt := 823) (off := 790) hx hb (lx_dec (e := (33, .tableswitch 1457 0 46 #[203, 236, 279, 312, 335, 398, 421, 454, 497, 520, 543, 576, 609, 642, 675, 688, 701, 724, 757, 790, 813, 836, 859, 882, 915, 928, 961, 984, 1007, 1030, 1043, 1066, 1089, 1112, 1145, 1178, 1201, 1244, 1277, 1310, 1343, 1356, 1370, 1384, 1407, 1420, 1443], 203, 0)) lx_r0_ok (List.mem_of_getElem? (i := 21) rfl)) (by decide) (by decide) rfl (by decide) (lx_k19 hC hin _ (fun _ _ => rfl) g0 g1 hk H locs lC hP hQ hS hl)
        | 20, _, g0, g1 => exact lv_tableIn (tgt := 846) (off := 813) hx hb (lx_dec (e := (33, .tableswitch 1457 0 46 #[203, 236, 279, 312, 335, 398, 421, 454, 497, 520, 543, 576, 609, 642, 675, 688, 701, 724, 757, 790, 813, 836, 859, 882, 915, 928, 961, 984, 1007, 1030, 1043, 1066, 1089, 1112, 1145, 1178, 1201, 1244, 1277, 1310, 1343, 1356, 1370, 1384, 1407, 1420, 1443], 203, 0)) lx_r0_ok (List.mem_of_getElem? (i := 21) rfl)) (by decide) (by decide) rfl (by decide) (lx_k20 hC hin _ (fun _ _ => rfl) g0 g1 hk H locs lC hP hQ hS hl)
        | 21, _, g0, g1 => exact lv_tableIn (tgt := 869) (off := 836) hx hb (lx_dec (e := (33, .tableswitch 1457 0 46 #[203, 236, 279, 312, 335, 398, 421, 454, 497, 520, 543, 576, 609, 642, 675, 688, 701, 724, 757, 790, 813, 836, 859, 882, 915, 928, 961, 984, 1007, 1030, 1043, 1066, 1089, 1112, 1145, 1178, 1201, 1244, 1277, 1310, 1343, 1356, 1370, 1384, 1407, 1420, 1443], 203, 0)) lx_r0_ok (List.mem_of_getElem? (i := 21) rfl)) (by decide) (by decide) rfl (by decide) (lx_k21 hC hin _ (fun _ _ => rfl) g0 g1 hk H locs lC hP hQ hS hl)
        | 22, _, g0, g1 => exact lv_tableIn (tgt := 892) (off := 859) hx hb (lx_dec (e := (33, .tableswitch 1457 0 46 #[203, 236, 279, 312, 335, 398, 421, 454, 497, 520, 543, 576, 609, 642, 675, 688, 701, 724, 757, 790, 813, 836, 859, 882, 915, 928, 961, 984, 1007, 1030, 1043, 1066, 1089, 1112, 1145, 1178, 1201, 1244, 1277, 1310, 1343, 1356, 1370, 1384, 1407, 1420, 1443], 203, 0)) lx_r0_ok (List.mem_of_getElem? (i := 21) rfl)) (by decide) (by decide) rfl (by decide) (lx_k22 hC hin _ (fun _ _ => rfl) g0 g1 hk H locs lC hP hQ hS hl)
        | 23, _, g0, g1 => exact lv_tableIn (tgt := 915) (off := 882) hx hb (lx_dec (e := (33, .tableswitch 1457 0 46 #[203, 236, 279, 312, 335, 398, 421, 454, 497, 520, 543, 576, 609, 642, 675, 688, 701, 724, 757, 790, 813, 836, 859, 882, 915, 928, 961, 984, 1007, 1030, 1043, 1066, 1089, 1112, 1145, 1178, 1201, 1244, 1277, 1310, 1343, 1356, 1370, 1384, 1407, 1420, 1443], 203, 0)) lx_r0_ok (List.mem_of_getElem? (i := 21) rfl)) (by decide) (by decide) rfl (by decide) (lx_k23 hC hin _ (fun _ _ => rfl) g0 g1 hk H locs lC hP hQ hS hl)
        | 24, _, g0, g1 => exact lv_tableIn (tgt := 948) (off := 915) hx hb (lx_dec (e := (33, .tableswitch 1457 0 46 #[203, 236, 279, 312, 335, 398, 421, 454, 497, 520, 543, 576, 609, 642, 675, 688, 701, 724, 757, 790, 813, 836, 859, 882, 915, 928, 961, 984, 1007, 1030, 1043, 1066, 1089, 1112, 1145, 1178, 1201, 1244, 1277, 1310, 1343, 1356, 1370, 1384, 1407, 1420, 1443], 203, 0)) lx_r0_ok (List.mem_of_getElem? (i := 21) rfl)) (by decide) (by decide) rfl (by decide) (lx_k24 hC hin _ (fun _ _ => rfl) g0 g1 hk H locs lC hP hQ hS hl)
        | 25, _, g0, g1 => exact lv_tableIn (tgt := 961) (off := 928) hx hb (lx_dec (e := (33, .tableswitch 1457 0 46 #[203, 236, 279, 312, 335, 398, 421, 454, 497, 520, 543, 576, 609, 642, 675, 688, 701, 724, 757, 790, 813, 836, 859, 882, 915, 928, 961, 984, 1007, 1030, 1043, 1066, 1089, 1112, 1145, 1178, 1201, 1244, 1277, 1310, 1343, 1356, 1370, 1384, 1407, 1420, 1443], 203, 0)) lx_r0_ok (List.mem_of_getElem? (i := 21) rfl)) (by decide) (by decide) rfl (by decide) (lx_k25 hC hin _ (fun _ _ => rfl) g0 g1 hk H locs lC hP hQ hS hl)
        | 26, _, g0, g1 => exact lv_tableIn (tgt := 994) (off := 961) hx hb (lx_dec (e := (33, .tableswitch 1457 0 46 #[203, 236, 279, 312, 335, 398, 421, 454, 497, 520, 543, 576, 609, 642, 675, 688, 701, 724, 757, 790, 813, 836, 859, 882, 915, 928, 961, 984, 1007, 1030, 1043, 1066, 1089, 1112, 1145, 1178, 1201, 1244, 1277, 1310, 1343, 1356, 1370, 1384, 1407, 1420, 1443], 203, 0)) lx_r0_ok (List.mem_of_getElem? (i := 21) rfl)) (by decide) (by decide) rfl (by decide) (lx_k26 hC hin _ (fun _ _ => rfl) g0 g1 hk H locs lC hP hQ hS hl)
        | 27, _, g0, g1 => exact lv_tableIn (tgt := 1017) (off := 984) hx hb (lx_dec (e := (33, .tableswitch 1457 0 46 #[203, 236, 279, 312, 335, 398, 421, 454, 497, 520, 543, 576, 609, 642, 675, 688, 701, 724, 757, 790, 813, 836, 859, 882, 915, 928, 961, 984, 1007, 1030, 1043, 1066, 1089, 1112, 1145, 1178, 1201, 1244, 1277, 1310, 1343, 1356, 1370, 1384, 1407, 1420, 1443], 203, 0)) lx_r0_ok (List.mem_of_getElem? (i := 21) rfl)) (by decide) (by decide) rfl (by decide) (lx_k27 hC hin _ (fun _ _ => rfl) g0 g1 hk H locs lC hP hQ hS hl)
        | 28, _, g0, g1 => exact lv_tableIn (tgt := 1040) (off := 1007) hx hb (lx_dec (e := (33, .tableswitch 1457 0 46 #[203, 236, 279, 312, 335, 398, 421, 454, 497, 520, 543, 576, 609, 642, 675, 688, 701, 724, 757, 790, 813, 836, 859, 882, 915, 928, 961, 984, 1007, 1030, 1043, 1066, 1089, 1112, 1145, 1178, 1201, 1244, 1277, 1310, 1343, 1356, 1370, 1384, 1407, 1420, 1443], 203, 0)) lx_r0_ok (List.mem_of_getElem? (i := 21) rfl)) (by decide) (by decide) rfl (by decide) (lx_k28 hC hin _ (fun _ _ => rfl) g0 g1 hk H locs lC hP hQ hS hl)
        | 29, _, g0, g1 => exact lv_tableIn (tgt := 1063) (off := 1030) hx hb (lx_dec (e := (33, .tableswitch 1457 0 46 #[203, 236, 279, 312, 335, 398, 421, 454, 497, 520, 543, 576, 609, 642, 675, 688, 701, 724, 757, 790, 813, 836, 859, 882, 915, 928, 961, 984, 1007, 1030, 1043, 1066, 1089, 1112, 1145, 1178, 1201, 1244, 1277, 1310, 1343, 1356, 1370, 1384, 1407, 1420, 1443], 203, 0)) lx_r0_ok (List.mem_of_getElem? (i := 21) rfl)) (by decide) (by decide) rfl (by decide) (lx_k29 hC hin _ (fun _ _ => rfl) g0 g1 hk H locs lC hP hQ hS hl)
        | 30, _, g0, g1 => exact lv_tableIn (tgt := 1076) (off := 1043) hx hb (lx_dec (e := (33, .tableswitch 1457 0 46 #[203, 236, 279, 312, 335, 398, 421, 454, 497, 520, 543, 576, 609, 642, 675, 688, 701, 724, 757, 790, 813, 836, 859, 882, 915, 928, 961, 984, 1007, 1030, 1043, 1066, 1089, 1112, 1145, 1178, 1201, 1244, 1277, 1310, 1343, 1356, 1370, 1384, 1407, 1420, 1443], 203, 0)) lx_r0_ok (List.mem_of_getElem? (i := 21) rfl)) (by decide) (by decide) rfl (by decide) (lx_k30 hC hin _ (fun _ _ => rfl) g0 g1 hk H locs lC hP hQ hS hl)
        | 31, _, g0, g1 => exact lv_tableIn (tgt := 1099) (off := 1066) hx hb (lx_dec (e := (33, .tableswitch 1457 0 46 #[203, 236, 279, 312, 335, 398, 421, 454, 497, 520, 543, 576, 609, 642, 675, 688, 701, 724, 757, 790, 813, 836, 859, 882, 915, 928, 961, 984, 1007, 1030, 1043, 1066, 1089, 1112, 1145, 1178, 1201, 1244, 1277, 1310, 1343, 1356, 1370, 1384, 1407, 1420, 1443], 203, 0)) lx_r0_ok (List.mem_of_getElem? (i := 21) rfl)) (by decide) (by decide) rfl (by decide) (lx_k31 hC hin _ (fun _ _ => rfl) g0 g1 hk H locs lC hP hQ hS hl)
        | 32, _, g0, g1 => exact lv_tableIn (tgt := 1122) (off := 1089) hx hb (lx_dec (e := (33, .tableswitch 1457 0 46 #[203, 236, 279, 312, 335, 398, 421, 454, 497, 520, 543, 576, 609, 642, 675, 688, 701, 724, 757, 790, 813, 836, 859, 882, 915, 928, 961, 984, 1007, 1030, 1043, 1066, 1089, 1112, 1145, 1178, 1201, 1244, 1277, 1310, 1343, 1356, 1370, 1384, 1407, 1420, 1443], 203, 0)) lx_r0_ok (List.mem_of_getElem? (i := 21) rfl)) (by decide) (by decide) rfl (by decide) (lx_k32 hC hin _ (fun _ _ => rfl) g0 g1 hk H locs lC hP hQ hS hl)
        | 33, _, g0, g1 => exact lv_tableIn (tgt := 1145) (off := 1112) hx hb (lx_dec (e := (33, .tableswitch 1457 0 46 #[203, 236, 279, 312, 335, 398, 421, 454, 497, 520, 543, 576, 609, 642, 675, 688, 701, 724, 757, 790, 813, 836, 859, 882, 915, 928, 961, 984, 1007, 1030, 1043, 1066, 1089, 1112, 1145, 1178, 1201, 1244, 1277, 1310, 1343, 1356, 1370, 1384, 1407, 1420, 1443], 203, 0)) lx_r0_ok (List.mem_of_getElem? (i := 21) rfl)) (by decide) (by decide) rfl (by decide) (lx_k33 hC hin _ (fun _ _ => rfl) g0 g1 hk H locs lC hP hQ hS hl)
        | 34, _, g0, g1 => exact lv_tableIn (tgt := 1178) (off := 1145) hx hb (lx_dec (e := (33, .tableswitch 1457 0 46 #[203, 236, 279, 312, 335, 398, 421, 454, 497, 520, 543, 576, 609, 642, 675, 688, 701, 724, 757, 790, 813, 836, 859, 882, 915, 928, 961, 984, 1007, 1030, 1043, 1066, 1089, 1112, 1145, 1178, 1201, 1244, 1277, 1310, 1343, 1356, 1370, 1384, 1407, 1420, 1443], 203, 0)) lx_r0_ok (List.mem_of_getElem? (i := 21) rfl)) (by decide) (by decide) rfl (by decide) (lx_k34 hC hin _ (fun _ _ => rfl) g0 g1 hk H locs lC hP hQ hS hl)
        | 35, _, g0, g1 => exact lv_tableIn (tgt := 1211) (off := 1178) hx hb (lx_dec (e := (33, .tableswitch 1457 0 46 #[203, 236, 279, 312, 335, 398, 421, 454, 497, 520, 543, 576, 609, 642, 675, 688, 701, 724, 757, 790, 813, 836, 859, 882, 915, 928, 961, 984, 1007, 1030, 1043, 1066, 1089, 1112, 1145, 1178, 1201, 1244, 1277, 1310, 1343, 1356, 1370, 1384, 1407, 1420, 1443], 203, 0)) lx_r0_ok (List.mem_of_getElem? (i := 21) rfl)) (by decide) (by decide) rfl (by decide) (lx_k35 hC hin _ (fun _ _ => rfl) g0 g1 hk H locs lC hP hQ hS hl)
        | 36, _, g0, g1 => exact lv_tableIn (tgt := 1234) (off := 1201) hx hb (lx_dec (e := (33, .tableswitch 1457 0 46 #[203, 236, 279, 312, 335, 398, 421, 454, 497, 520, 543, 576, 609, 642, 675, 688, 701, 724, 757, 790, 813, 836, 859, 882, 915, 928, 961, 984, 1007, 1030, 1043, 1066, 1089, 1112, 1145, 1178, 1201, 1244, 1277, 1310, 1343, 1356, 1370, 1384, 1407, 1420, 1443], 203, 0)) lx_r0_ok (List.mem_of_getElem? (i := 21) rfl)) (by decide) (by decide) rfl (by decide) (lx_k36 hC hin _ (fun _ _ => rfl) g0 g1 hk H locs lC hP hQ hS hl)
        | 37, _, g0, g1 => exact lv_tableIn (tgt := 1277) (off := 1244) hx hb (lx_dec (e := (33, .tableswitch 1457 0 46 #[203, 236, 279, 312, 335, 398, 421, 454, 497, 520, 543, 576, 609, 642, 675, 688, 701, 724, 757, 790, 813, 836, 859, 882, 915, 928, 961, 984, 1007, 1030, 1043, 1066, 1089, 1112, 1145, 1178, 1201, 1244, 1277, 1310, 1343, 1356, 1370, 1384, 1407, 1420, 1443], 203, 0)) lx_r0_ok (List.mem_of_getElem? (i := 21) rfl)) (by decide) (by decide) rfl (by decide) (lx_k37 hC hin _ (fun _ _ => rfl) g0 g1 hk H locs lC hP hQ hS hl)
        | 38, _, g0, g1 => exact lv_tableIn (tgt := 1310) (off := 1277) hx hb (lx_dec (e := (33, .tableswitch 1457 0 46 #[203, 236, 279, 312, 335, 398, 421, 454, 497, 520, 543, 576, 609, 642, 675, 688, 701, 724, 757, 790, 813, 836, 859, 882, 915, 928, 961, 984, 1007, 1030, 1043, 1066, 1089, 1112, 1145, 1178, 1201, 1244, 1277, 1310, 1343, 1356, 1370, 1384, 1407, 1420, 1443], 203, 0)) lx_r0_ok (List.mem_of_getElem? (i := 21) rfl)) (by decide) (by decide) rfl (by decide) (lx_k38 hC hin _ (fun _ _ => rfl) g0 g1 hk H locs lC hP hQ hS hl)
        | 39, _, g0, g1 => exact lv_tableIn (tgt := 1343) (off := 1310) hx hb (lx_dec (e := (33, .tableswitch 1457 0 46 #[203, 236, 279, 312, 335, 398, 421, 454, 497, 520, 543, 576, 609, 642, 675, 688, 701, 724, 757, 790, 813, 836, 859, 882, 915, 928, 961, 984, 1007, 1030, 1043, 1066, 1089, 1112, 1145, 1178, 1201, 1244, 1277, 1310, 1343, 1356, 1370, 1384, 1407, 1420, 1443], 203, 0)) lx_r0_ok (List.mem_of_getElem? (i := 21) rfl)) (by decide) (by decide) rfl (by decide) (lx_k39 hC hin _ (fun _ _ => rfl) g0 g1 hk H locs lC hP hQ hS hl)
        | 40, _, g0, g1 => exact lv_tableIn (tgt := 1376) (off := 1343) hx hb (lx_dec (e := (33, .tableswitch 1457 0 46 #[203, 236, 279, 312, 335, 398, 421, 454, 497, 520, 543, 576, 609, 642, 675, 688, 701, 724, 757, 790, 813, 836, 859, 882, 915, 928, 961, 984, 1007, 1030, 1043, 1066, 1089, 1112, 1145, 1178, 1201, 1244, 1277, 1310, 1343, 1356, 1370, 1384, 1407, 1420, 1443], 203, 0)) lx_r0_ok (List.mem_of_getElem? (i := 21) rfl)) (by decide) (by decide) rfl (by decide) (lx_k40 hC hin _ (fun _ _ => rfl) g0 g1 hk H locs lC hP hQ hS hl)
        | 41, _, g0, g1 => exact lv_tableIn (tgt := 1389) (off := 1356) hx hb (lx_dec (e := (33, .tableswitch 1457 0 46 #[203, 236, 279, 312, 335, 398, 421, 454, 497, 520, 543, 576, 609, 642, 675, 688, 701, 724, 757, 790, 813, 836, 859, 882, 915, 928, 961, 984, 1007, 1030, 1043, 1066, 1089, 1112, 1145, 1178, 1201, 1244, 1277, 1310, 1343, 1356, 1370, 1384, 1407, 1420, 1443], 203, 0)) lx_r0_ok (List.mem_of_getElem? (i := 21) rfl)) (by decide) (by decide) rfl (by decide) (lx_k41 hC hin _ (fun _ _ => rfl) g0 g1 hk H locs lC hP hQ hS hl)
        | 42, _, g0, g1 => exact lv_tableIn (tgt := 1403) (off := 1370) hx hb (lx_dec (e := (33, .tableswitch 1457 0 46 #[203, 236, 279, 312, 335, 398, 421, 454, 497, 520, 543, 576, 609, 642, 675, 688, 701, 724, 757, 790, 813, 836, 859, 882, 915, 928, 961, 984, 1007, 1030, 1043, 1066, 1089, 1112, 1145, 1178, 1201, 1244, 1277, 1310, 1343, 1356, 1370, 1384, 1407, 1420, 1443], 203, 0)) lx_r0_ok (List.mem_of_getElem? (i := 21) rfl)) (by decide) (by decide) rfl (by decide) (lx_k42 hC hin _ (fun _ _ => rfl) g0 g1 hk H locs lC hP hQ hS hl)
        | 43, _, g0, g1 => exact lv_tableIn (tgt := 1417) (off := 1384) hx hb (lx_dec (e := (33, .tableswitch 1457 0 46 #[203, 236, 279, 312, 335, 398, 421, 454, 497, 520, 543, 576, 609, 642, 675, 688, 701, 724, 757, 790, 813, 836, 859, 882, 915, 928, 961, 984, 1007, 1030, 1043, 1066, 1089, 1112, 1145, 1178, 1201, 1244, 1277, 1310, 1343, 1356, 1370, 1384, 1407, 1420, 1443], 203, 0)) lx_r0_ok (List.mem_of_getElem? (i := 21) rfl)) (by decide) (by decide) rfl (by decide) (lx_k43 hC hin _ (fun _ _ => rfl) g0 g1 hk H locs lC hP hQ hS hl)
        | 44, _, g0, g1 => exact lv_tableIn (tgt := 1440) (off := 1407) hx hb (lx_dec (e := (33, .tableswitch 1457 0 46 #[203, 236, 279, 312, 335, 398, 421, 454, 497, 520, 543, 576, 609, 642, 675, 688, 701, 724, 757, 790, 813, 836, 859, 882, 915, 928, 961, 984, 1007, 1030, 1043, 1066, 1089, 1112, 1145, 1178, 1201, 1244, 1277, 1310, 1343, 1356, 1370, 1384, 1407, 1420, 1443], 203, 0)) lx_r0_ok (List.mem_of_getElem? (i := 21) rfl)) (by decide) (by decide) rfl (by decide) (lx_k44 hC hin _ (fun _ _ => rfl) g0 g1 hk H locs lC hP hQ hS hl)
        | 45, _, g0, g1 => exact lv_tableIn (tgt := 1453) (off := 1420) hx hb (lx_dec (e := (33, .tableswitch 1457 0 46 #[203, 236, 279, 312, 335, 398, 421, 454, 497, 520, 543, 576, 609, 642, 675, 688, 701, 724, 757, 790, 813, 836, 859, 882, 915, 928, 961, 984, 1007, 1030, 1043, 1066, 1089, 1112, 1145, 1178, 1201, 1244, 1277, 1310, 1343, 1356, 1370, 1384, 1407, 1420, 1443], 203, 0)) lx_r0_ok (List.mem_of_getElem? (i := 21) rfl)) (by decide) (by decide) rfl (by decide) (lx_k45 hC hin _ (fun _ _ => rfl) g0 g1 hk H locs lC hP hQ hS hl)
        | 46, _, g0, g1 => exact lv_tableIn (tgt := 1476) (off := 1443) hx hb (lx_dec (e := (33, .tableswitch 1457 0 46 #[203, 236, 279, 312, 335, 398, 421, 454, 497, 520, 543, 576, 609, 642, 675, 688, 701, 724, 757, 790, 813, 836, 859, 882, 915, 928, 961, 984, 1007, 1030, 1043, 1066, 1089, 1112, 1145, 1178, 1201, 1244, 1277, 1310, 1343, 1356, 1370, 1384, 1407, 1420, 1443], 203, 0)) lx_r0_ok (List.mem_of_getElem? (i := 21) rfl)) (by decide) (by decide) rfl (by decide) (lx_k46 hC hin _ (fun _ _ => rfl) g0 g1 hk H locs lC hP hQ hS hl)
        | j + 47, h, _, _ => exact absurd h (by omega)
      · refine lv_tableOut (tgt := 1490) hx hb (lx_dec (e := (33, .tableswitch 1457 0 46 #[203, 236, 279, 312, 335, 398, 421, 454, 497, 520, 543, 576, 609, 642, 675, 688, 701, 724, 757, 790, 813, 836, 859, 882, 915, 928, 961, 984, 1007, 1030, 1043, 1066, 1089, 1112, 1145, 1178, 1201, 1244, 1277, 1310, 1343, 1356, 1370, 1384, 1407, 1420, 1443], 203, 0)) lx_r0_ok (List.mem_of_getElem? (i := 21) rfl)) (Or.inr ?_) (by decide) (hnext σ τ hI H locs lC hP hQ hS hl)
        rw [nI_toInt (by omega)]
        omega

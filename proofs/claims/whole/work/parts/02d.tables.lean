/-! the good words of the tables, by their places -/
def mm_gt : List Jvm.Cond := lw_tbl.filter goodWord
theorem mm_gt_in {w : Jvm.Cond} (h : w ∈ mm_gt) : w ∈ lw_tbl ∧ goodWord w = true := List.mem_filter.mp h
theorem tb1 {i : Nat} {w : Jvm.Cond} (h : tables_1_1[i]? = some w) (hg : goodWord w = true) : w ∈ mm_gt := List.mem_filter.mpr ⟨List.mem_append_right _ (List.mem_append_left _ (List.mem_of_getElem? h)), hg⟩
theorem tb2 {i : Nat} {w : Jvm.Cond} (h : tables_1_2[i]? = some w) (hg : goodWord w = true) : w ∈ mm_gt := List.mem_filter.mpr ⟨List.mem_append_right _ (List.mem_append_right _ (List.mem_append_left _ (List.mem_of_getElem? h))), hg⟩
theorem tb3 {i : Nat} {w : Jvm.Cond} (h : tables_1_3[i]? = some w) (hg : goodWord w = true) : w ∈ mm_gt := List.mem_filter.mpr ⟨List.mem_append_right _ (List.mem_append_right _ (List.mem_append_right _ (List.mem_append_left _ (List.mem_of_getElem? h)))), hg⟩
theorem tb4 {i : Nat} {w : Jvm.Cond} (h : tables_1_4[i]? = some w) (hg : goodWord w = true) : w ∈ mm_gt := List.mem_filter.mpr ⟨List.mem_append_right _ (List.mem_append_right _ (List.mem_append_right _ (List.mem_append_right _ (List.mem_append_left _ (List.mem_of_getElem? h))))), hg⟩
theorem tb5 {i : Nat} {w : Jvm.Cond} (h : tables_1_5[i]? = some w) (hg : goodWord w = true) : w ∈ mm_gt := List.mem_filter.mpr ⟨List.mem_append_right _ (List.mem_append_right _ (List.mem_append_right _ (List.mem_append_right _ (List.mem_append_right _ (List.mem_append_left _ (List.mem_of_getElem? h)))))), hg⟩
theorem tb6 {i : Nat} {w : Jvm.Cond} (h : tables_1_6[i]? = some w) (hg : goodWord w = true) : w ∈ mm_gt := List.mem_filter.mpr ⟨List.mem_append_right _ (List.mem_append_right _ (List.mem_append_right _ (List.mem_append_right _ (List.mem_append_right _ (List.mem_append_right _ (List.mem_append_left _ (List.mem_of_getElem? h))))))), hg⟩
theorem tb7 {i : Nat} {w : Jvm.Cond} (h : tables_1_7[i]? = some w) (hg : goodWord w = true) : w ∈ mm_gt := List.mem_filter.mpr ⟨List.mem_append_right _ (List.mem_append_right _ (List.mem_append_right _ (List.mem_append_right _ (List.mem_append_right _ (List.mem_append_right _ (List.mem_append_right _ (List.mem_append_left _ (List.mem_of_getElem? h)))))))), hg⟩
theorem tb8 {i : Nat} {w : Jvm.Cond} (h : tables_1_8[i]? = some w) (hg : goodWord w = true) : w ∈ mm_gt := List.mem_filter.mpr ⟨List.mem_append_right _ (List.mem_append_right _ (List.mem_append_right _ (List.mem_append_right _ (List.mem_append_right _ (List.mem_append_right _ (List.mem_append_right _ (List.mem_append_right _ (List.mem_of_getElem? h)))))))), hg⟩
theorem tbs {q : MethodName × Nat} (h : q ∈ lw_privs) : Jvm.Cond.selects q.1.cls q.1 q.1 ∈ mm_gt := List.mem_filter.mpr ⟨List.mem_append_left _ (List.mem_map.mpr ⟨q, h, rfl⟩), rfl⟩
set_option maxRecDepth 100000 in
theorem clX0 : ∀ w ∈ u_ws RX0 TX0 4, w ∈ mm_gt := by
  intro w hw
  obtain ⟨k, hk, rfl⟩ := List.mem_map.mp hw
  have hk := List.mem_range.mp hk
  match k, hk with
  | 0, _ => exact tb1 (i := 152) rfl rfl
  | 1, _ => exact tb1 (i := 154) rfl rfl
  | 2, _ => exact tb1 (i := 156) rfl rfl
  | 3, _ => exact tb1 (i := 158) rfl rfl
  | k + 4, h => exact absurd h (by omega)
set_option maxRecDepth 100000 in
theorem clX1 : ∀ w ∈ u_ws RX1 TX1 13, w ∈ mm_gt := by
  intro w hw
  obtain ⟨k, hk, rfl⟩ := List.mem_map.mp hw
  have hk := List.mem_range.mp hk
  match k, hk with
  | 0, _ => exact tb1 (i := 58) rfl rfl
  | 1, _ => exact tb1 (i := 60) rfl rfl
  | 2, _ => exact tb1 (i := 62) rfl rfl
  | 3, _ => exact tb1 (i := 64) rfl rfl
  | 4, _ => exact tb1 (i := 66) rfl rfl
  | 5, _ => exact tb1 (i := 68) rfl rfl
  | 6, _ => exact tb1 (i := 70) rfl rfl
  | 7, _ => exact tb1 (i := 72) rfl rfl
  | 8, _ => exact tb1 (i := 74) rfl rfl
  | 9, _ => exact tb1 (i := 76) rfl rfl
  | 10, _ => exact tb1 (i := 78) rfl rfl
  | 11, _ => exact tb1 (i := 80) rfl rfl
  | 12, _ => exact tb1 (i := 82) rfl rfl
  | k + 13, h => exact absurd h (by omega)
set_option maxRecDepth 100000 in
theorem clX2 : ∀ w ∈ u_ws RX2 TX2 5, w ∈ mm_gt := by
  intro w hw
  obtain ⟨k, hk, rfl⟩ := List.mem_map.mp hw
  have hk := List.mem_range.mp hk
  match k, hk with
  | 0, _ => exact tb1 (i := 206) rfl rfl
  | 1, _ => exact tb1 (i := 208) rfl rfl
  | 2, _ => exact tb1 (i := 210) rfl rfl
  | 3, _ => exact tb1 (i := 212) rfl rfl
  | 4, _ => exact tb1 (i := 214) rfl rfl
  | k + 5, h => exact absurd h (by omega)
set_option maxRecDepth 100000 in
theorem clX3 : ∀ w ∈ u_ws RX3 TX3 12, w ∈ mm_gt := by
  intro w hw
  obtain ⟨k, hk, rfl⟩ := List.mem_map.mp hw
  have hk := List.mem_range.mp hk
  match k, hk with
  | 0, _ => exact tb1 (i := 232) rfl rfl
  | 1, _ => exact tb1 (i := 234) rfl rfl
  | 2, _ => exact tb1 (i := 236) rfl rfl
  | 3, _ => exact tb1 (i := 238) rfl rfl
  | 4, _ => exact tb2 (i := 0) rfl rfl
  | 5, _ => exact tb2 (i := 2) rfl rfl
  | 6, _ => exact tb2 (i := 4) rfl rfl
  | 7, _ => exact tb2 (i := 6) rfl rfl
  | 8, _ => exact tb2 (i := 8) rfl rfl
  | 9, _ => exact tb2 (i := 10) rfl rfl
  | 10, _ => exact tb2 (i := 12) rfl rfl
  | 11, _ => exact tb2 (i := 14) rfl rfl
  | k + 12, h => exact absurd h (by omega)
set_option maxRecDepth 100000 in
theorem clX4 : ∀ w ∈ u_ws RX4 TX4 8, w ∈ mm_gt := by
  intro w hw
  obtain ⟨k, hk, rfl⟩ := List.mem_map.mp hw
  have hk := List.mem_range.mp hk
  match k, hk with
  | 0, _ => exact tb1 (i := 105) rfl rfl
  | 1, _ => exact tb1 (i := 107) rfl rfl
  | 2, _ => exact tb1 (i := 109) rfl rfl
  | 3, _ => exact tb1 (i := 111) rfl rfl
  | 4, _ => exact tb1 (i := 113) rfl rfl
  | 5, _ => exact tb1 (i := 115) rfl rfl
  | 6, _ => exact tb1 (i := 117) rfl rfl
  | 7, _ => exact tb1 (i := 119) rfl rfl
  | k + 8, h => exact absurd h (by omega)
set_option maxRecDepth 100000 in
theorem clX5 : ∀ w ∈ u_ws RX5 TX5 2, w ∈ mm_gt := by
  intro w hw
  obtain ⟨k, hk, rfl⟩ := List.mem_map.mp hw
  have hk := List.mem_range.mp hk
  match k, hk with
  | 0, _ => exact tb2 (i := 48) rfl rfl
  | 1, _ => exact tb2 (i := 50) rfl rfl
  | k + 2, h => exact absurd h (by omega)
set_option maxRecDepth 100000 in
theorem clX6 : ∀ w ∈ u_ws RX6 TX6 3, w ∈ mm_gt := by
  intro w hw
  obtain ⟨k, hk, rfl⟩ := List.mem_map.mp hw
  have hk := List.mem_range.mp hk
  match k, hk with
  | 0, _ => exact tb1 (i := 135) rfl rfl
  | 1, _ => exact tb1 (i := 137) rfl rfl
  | 2, _ => exact tb1 (i := 139) rfl rfl
  | k + 3, h => exact absurd h (by omega)
set_option maxRecDepth 100000 in
theorem clX7 : ∀ w ∈ u_ws RX7 TX7 5, w ∈ mm_gt := by
  intro w hw
  obtain ⟨k, hk, rfl⟩ := List.mem_map.mp hw
  have hk := List.mem_range.mp hk
  match k, hk with
  | 0, _ => exact tb1 (i := 172) rfl rfl
  | 1, _ => exact tb1 (i := 174) rfl rfl
  | 2, _ => exact tb1 (i := 176) rfl rfl
  | 3, _ => exact tb1 (i := 178) rfl rfl
  | 4, _ => exact tb1 (i := 180) rfl rfl
  | k + 5, h => exact absurd h (by omega)
set_option maxRecDepth 100000 in
theorem clX8 : ∀ w ∈ u_ws RX8 TX8 5, w ∈ mm_gt := by
  intro w hw
  obtain ⟨k, hk, rfl⟩ := List.mem_map.mp hw
  have hk := List.mem_range.mp hk
  match k, hk with
  | 0, _ => exact tb2 (i := 29) rfl rfl
  | 1, _ => exact tb2 (i := 31) rfl rfl
  | 2, _ => exact tb2 (i := 33) rfl rfl
  | 3, _ => exact tb2 (i := 35) rfl rfl
  | 4, _ => exact tb2 (i := 37) rfl rfl
  | k + 5, h => exact absurd h (by omega)
set_option maxRecDepth 100000 in
theorem clX9 : ∀ w ∈ u_ws RX9 TX9 13, w ∈ mm_gt := by
  intro w hw
  obtain ⟨k, hk, rfl⟩ := List.mem_map.mp hw
  have hk := List.mem_range.mp hk
  match k, hk with
  | 0, _ => exact tb2 (i := 160) rfl rfl
  | 1, _ => exact tb2 (i := 162) rfl rfl
  | 2, _ => exact tb2 (i := 164) rfl rfl
  | 3, _ => exact tb2 (i := 166) rfl rfl
  | 4, _ => exact tb2 (i := 168) rfl rfl
  | 5, _ => exact tb2 (i := 170) rfl rfl
  | 6, _ => exact tb2 (i := 172) rfl rfl
  | 7, _ => exact tb2 (i := 174) rfl rfl
  | 8, _ => exact tb2 (i := 176) rfl rfl
  | 9, _ => exact tb2 (i := 178) rfl rfl
  | 10, _ => exact tb2 (i := 180) rfl rfl
  | 11, _ => exact tb2 (i := 182) rfl rfl
  | 12, _ => exact tb2 (i := 184) rfl rfl
  | k + 13, h => exact absurd h (by omega)
set_option maxRecDepth 100000 in
theorem clX10 : ∀ w ∈ u_ws RX10 TX10 53, w ∈ mm_gt := by
  intro w hw
  obtain ⟨k, hk, rfl⟩ := List.mem_map.mp hw
  have hk := List.mem_range.mp hk
  match k, hk with
  | 0, _ => exact tb6 (i := 54) rfl rfl
  | 1, _ => exact tb6 (i := 56) rfl rfl
  | 2, _ => exact tb6 (i := 58) rfl rfl
  | 3, _ => exact tb6 (i := 60) rfl rfl
  | 4, _ => exact tb6 (i := 62) rfl rfl
  | 5, _ => exact tb6 (i := 64) rfl rfl
  | 6, _ => exact tb6 (i := 66) rfl rfl
  | 7, _ => exact tb6 (i := 68) rfl rfl
  | 8, _ => exact tb6 (i := 70) rfl rfl
  | 9, _ => exact tb6 (i := 72) rfl rfl
  | 10, _ => exact tb6 (i := 74) rfl rfl
  | 11, _ => exact tb6 (i := 76) rfl rfl
  | 12, _ => exact tb6 (i := 78) rfl rfl
  | 13, _ => exact tb6 (i := 80) rfl rfl
  | 14, _ => exact tb6 (i := 82) rfl rfl
  | 15, _ => exact tb6 (i := 84) rfl rfl
  | 16, _ => exact tb6 (i := 86) rfl rfl
  | 17, _ => exact tb6 (i := 88) rfl rfl
  | 18, _ => exact tb6 (i := 90) rfl rfl
  | 19, _ => exact tb6 (i := 92) rfl rfl
  | 20, _ => exact tb6 (i := 94) rfl rfl
  | 21, _ => exact tb6 (i := 96) rfl rfl
  | 22, _ => exact tb6 (i := 98) rfl rfl
  | 23, _ => exact tb6 (i := 100) rfl rfl
  | 24, _ => exact tb6 (i := 102) rfl rfl
  | 25, _ => exact tb6 (i := 104) rfl rfl
  | 26, _ => exact tb6 (i := 106) rfl rfl
  | 27, _ => exact tb6 (i := 108) rfl rfl
  | 28, _ => exact tb6 (i := 110) rfl rfl
  | 29, _ => exact tb6 (i := 112) rfl rfl
  | 30, _ => exact tb6 (i := 114) rfl rfl
  | 31, _ => exact tb6 (i := 116) rfl rfl
  | 32, _ => exact tb6 (i := 118) rfl rfl
  | 33, _ => exact tb6 (i := 120) rfl rfl
  | 34, _ => exact tb6 (i := 122) rfl rfl
  | 35, _ => exact tb6 (i := 124) rfl rfl
  | 36, _ => exact tb6 (i := 126) rfl rfl
  | 37, _ => exact tb6 (i := 128) rfl rfl
  | 38, _ => exact tb6 (i := 130) rfl rfl
  | 39, _ => exact tb6 (i := 132) rfl rfl
  | 40, _ => exact tb6 (i := 134) rfl rfl
  | 41, _ => exact tb6 (i := 136) rfl rfl
  | 42, _ => exact tb6 (i := 138) rfl rfl
  | 43, _ => exact tb6 (i := 140) rfl rfl
  | 44, _ => exact tb6 (i := 142) rfl rfl
  | 45, _ => exact tb6 (i := 144) rfl rfl
  | 46, _ => exact tb6 (i := 146) rfl rfl
  | 47, _ => exact tb6 (i := 148) rfl rfl
  | 48, _ => exact tb6 (i := 150) rfl rfl
  | 49, _ => exact tb6 (i := 152) rfl rfl
  | 50, _ => exact tb6 (i := 154) rfl rfl
  | 51, _ => exact tb6 (i := 156) rfl rfl
  | 52, _ => exact tb6 (i := 158) rfl rfl
  | k + 53, h => exact absurd h (by omega)
/-! tables of the classes: fields by pool number, constants -/
def ftJ6 : List (Nat × Nat × Nat) := []
def ltJ6 : List (Nat × MV) := [(265, mI (1431655765)), (266, mI (858993459)), (267, mI (252645135))]
theorem ltJ6_ok : ∀ q ∈ ltJ6, (∀ z : Int, q.2 = mI z → Jvm.Cond.constant RJ6 q.1 (Int32.ofInt z) ∈ mm_gt) ∧ ∀ x : Int64, q.2 = mL x → Jvm.Cond.constantLong RJ6 q.1 x ∈ mm_gt := by
  exact List.forall_mem_cons.mpr ⟨⟨(fun z h => by cases h; exact tb5 (i := 119) rfl rfl), (fun x h => by cases h)⟩, List.forall_mem_cons.mpr ⟨⟨(fun z h => by cases h; exact tb5 (i := 120) rfl rfl), (fun x h => by cases h)⟩, List.forall_mem_cons.mpr ⟨⟨(fun z h => by cases h; exact tb5 (i := 121) rfl rfl), (fun x h => by cases h)⟩, List.forall_mem_nil _⟩⟩⟩
def ftL : List (Nat × Nat × Nat) := []
def ltL : List (Nat × MV) := []
def ftX0 : List (Nat × Nat × Nat) := [(11, 0, 1), (17, 0, 2), (20, 0, 3), (24, 0, 0), (34, 1, 2)]
def ltX0 : List (Nat × MV) := []
set_option maxRecDepth 100000 in
theorem ftX0_ok : ∀ q ∈ ftX0, ∃ r : vw_C, vwCl[q.2.1]? = some r ∧ q.2.2 < r.2.2 ∧ Jvm.Cond.fieldLink RX0 q.1 (r.2.1 q.2.2).1 (r.2.1 q.2.2).2.1 (r.2.1 q.2.2).2.2.1 ∈ mm_gt := by
  exact List.forall_mem_cons.mpr ⟨⟨(RX0, TX0, 4), rfl, (by decide), tb1 (i := 149) rfl rfl⟩, List.forall_mem_cons.mpr ⟨⟨(RX0, TX0, 4), rfl, (by decide), tb1 (i := 150) rfl rfl⟩, List.forall_mem_cons.mpr ⟨⟨(RX0, TX0, 4), rfl, (by decide), tb1 (i := 151) rfl rfl⟩, List.forall_mem_cons.mpr ⟨⟨(RX0, TX0, 4), rfl, (by decide), tb1 (i := 148) rfl rfl⟩, List.forall_mem_cons.mpr ⟨⟨(RX1, TX1, 13), rfl, (by decide), tb1 (i := 43) rfl rfl⟩, List.forall_mem_nil _⟩⟩⟩⟩⟩
def ftX1 : List (Nat × Nat × Nat) := [(11, 1, 5), (15, 1, 6), (18, 1, 7), (21, 1, 8), (24, 1, 9), (27, 1, 10), (30, 1, 11), (33, 1, 12), (39, 1, 0), (43, 1, 1), (46, 1, 2), (90, 1, 3), (103, 1, 4)]
def ltX1 : List (Nat × MV) := []
set_option maxRecDepth 100000 in
theorem ftX1_ok : ∀ q ∈ ftX1, ∃ r : vw_C, vwCl[q.2.1]? = some r ∧ q.2.2 < r.2.2 ∧ Jvm.Cond.fieldLink RX1 q.1 (r.2.1 q.2.2).1 (r.2.1 q.2.2).2.1 (r.2.1 q.2.2).2.2.1 ∈ mm_gt := by
  exact List.forall_mem_cons.mpr ⟨⟨(RX1, TX1, 13), rfl, (by decide), tb1 (i := 50) rfl rfl⟩, List.forall_mem_cons.mpr ⟨⟨(RX1, TX1, 13), rfl, (by decide), tb1 (i := 51) rfl rfl⟩, List.forall_mem_cons.mpr ⟨⟨(RX1, TX1, 13), rfl, (by decide), tb1 (i := 52) rfl rfl⟩, List.forall_mem_cons.mpr ⟨⟨(RX1, TX1, 13), rfl, (by decide), tb1 (i := 53) rfl rfl⟩, List.forall_mem_cons.mpr ⟨⟨(RX1, TX1, 13), rfl, (by decide), tb1 (i := 54) rfl rfl⟩, List.forall_mem_cons.mpr ⟨⟨(RX1, TX1, 13), rfl, (by decide), tb1 (i := 55) rfl rfl⟩, List.forall_mem_cons.mpr ⟨⟨(RX1, TX1, 13), rfl, (by decide), tb1 (i := 56) rfl rfl⟩, List.forall_mem_cons.mpr ⟨⟨(RX1, TX1, 13), rfl, (by decide), tb1 (i := 57) rfl rfl⟩, List.forall_mem_cons.mpr ⟨⟨(RX1, TX1, 13), rfl, (by decide), tb1 (i := 36) rfl rfl⟩, List.forall_mem_cons.mpr ⟨⟨(RX1, TX1, 13), rfl, (by decide), tb1 (i := 38) rfl rfl⟩, List.forall_mem_cons.mpr ⟨⟨(RX1, TX1, 13), rfl, (by decide), tb1 (i := 41) rfl rfl⟩, List.forall_mem_cons.mpr ⟨⟨(RX1, TX1, 13), rfl, (by decide), tb1 (i := 47) rfl rfl⟩, List.forall_mem_cons.mpr ⟨⟨(RX1, TX1, 13), rfl, (by decide), tb1 (i := 49) rfl rfl⟩, List.forall_mem_nil _⟩⟩⟩⟩⟩⟩⟩⟩⟩⟩⟩⟩⟩
def ftX10 : List (Nat × Nat × Nat) := [(9, 10, 0), (13, 10, 7), (16, 10, 8), (19, 10, 9), (22, 10, 10), (25, 10, 11), (28, 10, 12), (31, 10, 13), (34, 10, 16), (38, 10, 17), (41, 10, 18), (44, 10, 19), (48, 10, 20), (51, 10, 21), (54, 10, 22), (57, 10, 24), (60, 10, 25), (63, 10, 26), (66, 10, 27), (69, 10, 36), (73, 10, 41), (76, 10, 42), (79, 10, 43), (82, 10, 44), (85, 10, 45), (88, 10, 46), (91, 10, 49), (94, 10, 50), (97, 10, 51), (104, 10, 1), (107, 10, 2), (113, 10, 3), (119, 10, 4), (129, 10, 5), (142, 10, 6), (166, 10, 14), (169, 10, 23), (178, 10, 15), (212, 10, 28), (215, 10, 29), (218, 10, 30), (224, 10, 31), (227, 10, 32), (233, 10, 33), (241, 10, 34), (244, 10, 35), (256, 10, 39), (260, 10, 40), (283, 10, 38), (306, 10, 37), (442, 10, 48), (445, 10, 47), (478, 10, 52)]
def ltX10 : List (Nat × MV) := [(47, mI (32768)), (172, mL (-1)), (187, mL (-1000000)), (189, mL (1000000)), (368, mL (7)), (383, mL (4)), (385, mL (3)), (402, mL (5)), (432, mL (30)), (437, mL (6)), (451, mL (4096)), (465, mL (-99)), (467, mL (99)), (481, mL (9)), (483, mL (10))]
set_option maxRecDepth 100000 in
theorem ftX10_ok : ∀ q ∈ ftX10, ∃ r : vw_C, vwCl[q.2.1]? = some r ∧ q.2.2 < r.2.2 ∧ Jvm.Cond.fieldLink RX10 q.1 (r.2.1 q.2.2).1 (r.2.1 q.2.2).2.1 (r.2.1 q.2.2).2.2.1 ∈ mm_gt := by
  exact List.forall_mem_cons.mpr ⟨⟨(RX10, TX10, 53), rfl, (by decide), tb6 (i := 1) rfl rfl⟩, List.forall_mem_cons.mpr ⟨⟨(RX10, TX10, 53), rfl, (by decide), tb6 (i := 8) rfl rfl⟩, List.forall_mem_cons.mpr ⟨⟨(RX10, TX10, 53), rfl, (by decide), tb6 (i := 9) rfl rfl⟩, List.forall_mem_cons.mpr ⟨⟨(RX10, TX10, 53), rfl, (by decide), tb6 (i := 10) rfl rfl⟩, List.forall_mem_cons.mpr ⟨⟨(RX10, TX10, 53), rfl, (by decide), tb6 (i := 11) rfl rfl⟩, List.forall_mem_cons.mpr ⟨⟨(RX10, TX10, 53), rfl, (by decide), tb6 (i := 12) rfl rfl⟩, List.forall_mem_cons.mpr ⟨⟨(RX10, TX10, 53), rfl, (by decide), tb6 (i := 13) rfl rfl⟩, List.forall_mem_cons.mpr ⟨⟨(RX10, TX10, 53), rfl, (by decide), tb6 (i := 14) rfl rfl⟩, List.forall_mem_cons.mpr ⟨⟨(RX10, TX10, 53), rfl, (by decide), tb6 (i := 17) rfl rfl⟩, List.forall_mem_cons.mpr ⟨⟨(RX10, TX10, 53), rfl, (by decide), tb6 (i := 18) rfl rfl⟩, List.forall_mem_cons.mpr ⟨⟨(RX10, TX10, 53), rfl, (by decide), tb6 (i := 19) rfl rfl⟩, List.forall_mem_cons.mpr ⟨⟨(RX10, TX10, 53), rfl, (by decide), tb6 (i := 20) rfl rfl⟩, List.forall_mem_cons.mpr ⟨⟨(RX10, TX10, 53), rfl, (by decide), tb6 (i := 21) rfl rfl⟩, List.forall_mem_cons.mpr ⟨⟨(RX10, TX10, 53), rfl, (by decide), tb6 (i := 22) rfl rfl⟩, List.forall_mem_cons.mpr ⟨⟨(RX10, TX10, 53), rfl, (by decide), tb6 (i := 23) rfl rfl⟩, List.forall_mem_cons.mpr ⟨⟨(RX10, TX10, 53), rfl, (by decide), tb6 (i := 25) rfl rfl⟩, List.forall_mem_cons.mpr ⟨⟨(RX10, TX10, 53), rfl, (by decide), tb6 (i := 26) rfl rfl⟩, List.forall_mem_cons.mpr ⟨⟨(RX10, TX10, 53), rfl, (by decide), tb6 (i := 27) rfl rfl⟩, List.forall_mem_cons.mpr ⟨⟨(RX10, TX10, 53), rfl, (by decide), tb6 (i := 28) rfl rfl⟩, List.forall_mem_cons.mpr ⟨⟨(RX10, TX10, 53), rfl, (by decide), tb6 (i := 37) rfl rfl⟩, List.forall_mem_cons.mpr ⟨⟨(RX10, TX10, 53), rfl, (by decide), tb6 (i := 42) rfl rfl⟩, List.forall_mem_cons.mpr ⟨⟨(RX10, TX10, 53), rfl, (by decide), tb6 (i := 43) rfl rfl⟩, List.forall_mem_cons.mpr ⟨⟨(RX10, TX10, 53), rfl, (by decide), tb6 (i := 44) rfl rfl⟩, List.forall_mem_cons.mpr ⟨⟨(RX10, TX10, 53), rfl, (by decide), tb6 (i := 45) rfl rfl⟩, List.forall_mem_cons.mpr ⟨⟨(RX10, TX10, 53), rfl, (by decide), tb6 (i := 46) rfl rfl⟩, List.forall_mem_cons.mpr ⟨⟨(RX10, TX10, 53), rfl, (by decide), tb6 (i := 47) rfl rfl⟩, List.forall_mem_cons.mpr ⟨⟨(RX10, TX10, 53), rfl, (by decide), tb6 (i := 50) rfl rfl⟩, List.forall_mem_cons.mpr ⟨⟨(RX10, TX10, 53), rfl, (by decide), tb6 (i := 51) rfl rfl⟩, List.forall_mem_cons.mpr ⟨⟨(RX10, TX10, 53), rfl, (by decide), tb6 (i := 52) rfl rfl⟩, List.forall_mem_cons.mpr ⟨⟨(RX10, TX10, 53), rfl, (by decide), tb6 (i := 2) rfl rfl⟩, List.forall_mem_cons.mpr ⟨⟨(RX10, TX10, 53), rfl, (by decide), tb6 (i := 3) rfl rfl⟩, List.forall_mem_cons.mpr ⟨⟨(RX10, TX10, 53), rfl, (by decide), tb6 (i := 4) rfl rfl⟩, List.forall_mem_cons.mpr ⟨⟨(RX10, TX10, 53), rfl, (by decide), tb6 (i := 5) rfl rfl⟩, List.forall_mem_cons.mpr ⟨⟨(RX10, TX10, 53), rfl, (by decide), tb6 (i := 6) rfl rfl⟩, List.forall_mem_cons.mpr ⟨⟨(RX10, TX10, 53), rfl, (by decide), tb6 (i := 7) rfl rfl⟩, List.forall_mem_cons.mpr ⟨⟨(RX10, TX10, 53), rfl, (by decide), tb6 (i := 15) rfl rfl⟩, List.forall_mem_cons.mpr ⟨⟨(RX10, TX10, 53), rfl, (by decide), tb6 (i := 24) rfl rfl⟩, List.forall_mem_cons.mpr ⟨⟨(RX10, TX10, 53), rfl, (by decide), tb6 (i := 16) rfl rfl⟩, List.forall_mem_cons.mpr ⟨⟨(RX10, TX10, 53), rfl, (by decide), tb6 (i := 29) rfl rfl⟩, List.forall_mem_cons.mpr ⟨⟨(RX10, TX10, 53), rfl, (by decide), tb6 (i := 30) rfl rfl⟩, List.forall_mem_cons.mpr ⟨⟨(RX10, TX10, 53), rfl, (by decide), tb6 (i := 31) rfl rfl⟩, List.forall_mem_cons.mpr ⟨⟨(RX10, TX10, 53), rfl, (by decide), tb6 (i := 32) rfl rfl⟩, List.forall_mem_cons.mpr ⟨⟨(RX10, TX10, 53), rfl, (by decide), tb6 (i := 33) rfl rfl⟩, List.forall_mem_cons.mpr ⟨⟨(RX10, TX10, 53), rfl, (by decide), tb6 (i := 34) rfl rfl⟩, List.forall_mem_cons.mpr ⟨⟨(RX10, TX10, 53), rfl, (by decide), tb6 (i := 35) rfl rfl⟩, List.forall_mem_cons.mpr ⟨⟨(RX10, TX10, 53), rfl, (by decide), tb6 (i := 36) rfl rfl⟩, List.forall_mem_cons.mpr ⟨⟨(RX10, TX10, 53), rfl, (by decide), tb6 (i := 40) rfl rfl⟩, List.forall_mem_cons.mpr ⟨⟨(RX10, TX10, 53), rfl, (by decide), tb6 (i := 41) rfl rfl⟩, List.forall_mem_cons.mpr ⟨⟨(RX10, TX10, 53), rfl, (by decide), tb6 (i := 39) rfl rfl⟩, List.forall_mem_cons.mpr ⟨⟨(RX10, TX10, 53), rfl, (by decide), tb6 (i := 38) rfl rfl⟩, List.forall_mem_cons.mpr ⟨⟨(RX10, TX10, 53), rfl, (by decide), tb6 (i := 49) rfl rfl⟩, List.forall_mem_cons.mpr ⟨⟨(RX10, TX10, 53), rfl, (by decide), tb6 (i := 48) rfl rfl⟩, List.forall_mem_cons.mpr ⟨⟨(RX10, TX10, 53), rfl, (by decide), tb6 (i := 53) rfl rfl⟩, List.forall_mem_nil _⟩⟩⟩⟩⟩⟩⟩⟩⟩⟩⟩⟩⟩⟩⟩⟩⟩⟩⟩⟩⟩⟩⟩⟩⟩⟩⟩⟩⟩⟩⟩⟩⟩⟩⟩⟩⟩⟩⟩⟩⟩⟩⟩⟩⟩⟩⟩⟩⟩⟩⟩⟩⟩
theorem ltX10_ok : ∀ q ∈ ltX10, (∀ z : Int, q.2 = mI z → Jvm.Cond.constant RX10 q.1 (Int32.ofInt z) ∈ mm_gt) ∧ ∀ x : Int64, q.2 = mL x → Jvm.Cond.constantLong RX10 q.1 x ∈ mm_gt := by
  exact List.forall_mem_cons.mpr ⟨⟨(fun z h => by cases h; exact tb5 (i := 181) rfl rfl), (fun x h => by cases h)⟩, List.forall_mem_cons.mpr ⟨⟨(fun z h => by cases h), (fun x h => by cases h; exact tb5 (i := 229) rfl rfl)⟩, List.forall_mem_cons.mpr ⟨⟨(fun z h => by cases h), (fun x h => by cases h; exact tb7 (i := 12) rfl rfl)⟩, List.forall_mem_cons.mpr ⟨⟨(fun z h => by cases h), (fun x h => by cases h; exact tb7 (i := 13) rfl rfl)⟩, List.forall_mem_cons.mpr ⟨⟨(fun z h => by cases h), (fun x h => by cases h; exact tb6 (i := 176) rfl rfl)⟩, List.forall_mem_cons.mpr ⟨⟨(fun z h => by cases h), (fun x h => by cases h; exact tb7 (i := 133) rfl rfl)⟩, List.forall_mem_cons.mpr ⟨⟨(fun z h => by cases h), (fun x h => by cases h; exact tb7 (i := 142) rfl rfl)⟩, List.forall_mem_cons.mpr ⟨⟨(fun z h => by cases h), (fun x h => by cases h; exact tb7 (i := 179) rfl rfl)⟩, List.forall_mem_cons.mpr ⟨⟨(fun z h => by cases h), (fun x h => by cases h; exact tb8 (i := 0) rfl rfl)⟩, List.forall_mem_cons.mpr ⟨⟨(fun z h => by cases h), (fun x h => by cases h; exact tb8 (i := 13) rfl rfl)⟩, List.forall_mem_cons.mpr ⟨⟨(fun z h => by cases h), (fun x h => by cases h; exact tb8 (i := 26) rfl rfl)⟩, List.forall_mem_cons.mpr ⟨⟨(fun z h => by cases h), (fun x h => by cases h; exact tb8 (i := 55) rfl rfl)⟩, List.forall_mem_cons.mpr ⟨⟨(fun z h => by cases h), (fun x h => by cases h; exact tb8 (i := 56) rfl rfl)⟩, List.forall_mem_cons.mpr ⟨⟨(fun z h => by cases h), (fun x h => by cases h; exact tb8 (i := 103) rfl rfl)⟩, List.forall_mem_cons.mpr ⟨⟨(fun z h => by cases h), (fun x h => by cases h; exact tb8 (i := 104) rfl rfl)⟩, List.forall_mem_nil _⟩⟩⟩⟩⟩⟩⟩⟩⟩⟩⟩⟩⟩⟩⟩
def ftX2 : List (Nat × Nat × Nat) := [(9, 2, 1), (15, 2, 2), (18, 2, 3), (21, 2, 4), (24, 2, 0)]
def ltX2 : List (Nat × MV) := []
set_option maxRecDepth 100000 in
theorem ftX2_ok : ∀ q ∈ ftX2, ∃ r : vw_C, vwCl[q.2.1]? = some r ∧ q.2.2 < r.2.2 ∧ Jvm.Cond.fieldLink RX2 q.1 (r.2.1 q.2.2).1 (r.2.1 q.2.2).2.1 (r.2.1 q.2.2).2.2.1 ∈ mm_gt := by
  exact List.forall_mem_cons.mpr ⟨⟨(RX2, TX2, 5), rfl, (by decide), tb1 (i := 198) rfl rfl⟩, List.forall_mem_cons.mpr ⟨⟨(RX2, TX2, 5), rfl, (by decide), tb1 (i := 200) rfl rfl⟩, List.forall_mem_cons.mpr ⟨⟨(RX2, TX2, 5), rfl, (by decide), tb1 (i := 202) rfl rfl⟩, List.forall_mem_cons.mpr ⟨⟨(RX2, TX2, 5), rfl, (by decide), tb1 (i := 204) rfl rfl⟩, List.forall_mem_cons.mpr ⟨⟨(RX2, TX2, 5), rfl, (by decide), tb1 (i := 195) rfl rfl⟩, List.forall_mem_nil _⟩⟩⟩⟩⟩
def ftX3 : List (Nat × Nat × Nat) := [(12, 3, 0), (18, 3, 3), (22, 3, 4), (26, 3, 5), (30, 2, 0), (34, 3, 1), (37, 3, 2), (46, 3, 6), (47, 3, 7), (50, 3, 8), (59, 3, 9), (79, 3, 11), (110, 4, 0), (115, 1, 2), (130, 3, 10)]
def ltX3 : List (Nat × MV) := []
set_option maxRecDepth 100000 in
theorem ftX3_ok : ∀ q ∈ ftX3, ∃ r : vw_C, vwCl[q.2.1]? = some r ∧ q.2.2 < r.2.2 ∧ Jvm.Cond.fieldLink RX3 q.1 (r.2.1 q.2.2).1 (r.2.1 q.2.2).2.1 (r.2.1 q.2.2).2.2.1 ∈ mm_gt := by
  exact List.forall_mem_cons.mpr ⟨⟨(RX3, TX3, 12), rfl, (by decide), tb1 (i := 217) rfl rfl⟩, List.forall_mem_cons.mpr ⟨⟨(RX3, TX3, 12), rfl, (by decide), tb1 (i := 223) rfl rfl⟩, List.forall_mem_cons.mpr ⟨⟨(RX3, TX3, 12), rfl, (by decide), tb1 (i := 224) rfl rfl⟩, List.forall_mem_cons.mpr ⟨⟨(RX3, TX3, 12), rfl, (by decide), tb1 (i := 225) rfl rfl⟩, List.forall_mem_cons.mpr ⟨⟨(RX2, TX2, 5), rfl, (by decide), tb1 (i := 196) rfl rfl⟩, List.forall_mem_cons.mpr ⟨⟨(RX3, TX3, 12), rfl, (by decide), tb1 (i := 219) rfl rfl⟩, List.forall_mem_cons.mpr ⟨⟨(RX3, TX3, 12), rfl, (by decide), tb1 (i := 221) rfl rfl⟩, List.forall_mem_cons.mpr ⟨⟨(RX3, TX3, 12), rfl, (by decide), tb1 (i := 226) rfl rfl⟩, List.forall_mem_cons.mpr ⟨⟨(RX3, TX3, 12), rfl, (by decide), tb1 (i := 227) rfl rfl⟩, List.forall_mem_cons.mpr ⟨⟨(RX3, TX3, 12), rfl, (by decide), tb1 (i := 228) rfl rfl⟩, List.forall_mem_cons.mpr ⟨⟨(RX3, TX3, 12), rfl, (by decide), tb1 (i := 229) rfl rfl⟩, List.forall_mem_cons.mpr ⟨⟨(RX3, TX3, 12), rfl, (by decide), tb1 (i := 231) rfl rfl⟩, List.forall_mem_cons.mpr ⟨⟨(RX4, TX4, 8), rfl, (by decide), tb1 (i := 95) rfl rfl⟩, List.forall_mem_cons.mpr ⟨⟨(RX1, TX1, 13), rfl, (by decide), tb1 (i := 45) rfl rfl⟩, List.forall_mem_cons.mpr ⟨⟨(RX3, TX3, 12), rfl, (by decide), tb1 (i := 230) rfl rfl⟩, List.forall_mem_nil _⟩⟩⟩⟩⟩⟩⟩⟩⟩⟩⟩⟩⟩⟩⟩
def ftX4 : List (Nat × Nat × Nat) := [(11, 4, 3), (15, 4, 4), (19, 4, 5), (23, 4, 6), (26, 4, 0), (30, 4, 2), (48, 4, 1), (84, 4, 7)]
def ltX4 : List (Nat × MV) := [(69, mL (-1000000)), (71, mL (1000000))]
set_option maxRecDepth 100000 in
theorem ftX4_ok : ∀ q ∈ ftX4, ∃ r : vw_C, vwCl[q.2.1]? = some r ∧ q.2.2 < r.2.2 ∧ Jvm.Cond.fieldLink RX4 q.1 (r.2.1 q.2.2).1 (r.2.1 q.2.2).2.1 (r.2.1 q.2.2).2.2.1 ∈ mm_gt := by
  exact List.forall_mem_cons.mpr ⟨⟨(RX4, TX4, 8), rfl, (by decide), tb1 (i := 100) rfl rfl⟩, List.forall_mem_cons.mpr ⟨⟨(RX4, TX4, 8), rfl, (by decide), tb1 (i := 101) rfl rfl⟩, List.forall_mem_cons.mpr ⟨⟨(RX4, TX4, 8), rfl, (by decide), tb1 (i := 102) rfl rfl⟩, List.forall_mem_cons.mpr ⟨⟨(RX4, TX4, 8), rfl, (by decide), tb1 (i := 103) rfl rfl⟩, List.forall_mem_cons.mpr ⟨⟨(RX4, TX4, 8), rfl, (by decide), tb1 (i := 92) rfl rfl⟩, List.forall_mem_cons.mpr ⟨⟨(RX4, TX4, 8), rfl, (by decide), tb1 (i := 99) rfl rfl⟩, List.forall_mem_cons.mpr ⟨⟨(RX4, TX4, 8), rfl, (by decide), tb1 (i := 97) rfl rfl⟩, List.forall_mem_cons.mpr ⟨⟨(RX4, TX4, 8), rfl, (by decide), tb1 (i := 104) rfl rfl⟩, List.forall_mem_nil _⟩⟩⟩⟩⟩⟩⟩⟩
theorem ltX4_ok : ∀ q ∈ ltX4, (∀ z : Int, q.2 = mI z → Jvm.Cond.constant RX4 q.1 (Int32.ofInt z) ∈ mm_gt) ∧ ∀ x : Int64, q.2 = mL x → Jvm.Cond.constantLong RX4 q.1 x ∈ mm_gt := by
  exact List.forall_mem_cons.mpr ⟨⟨(fun z h => by cases h), (fun x h => by cases h; exact tb3 (i := 81) rfl rfl)⟩, List.forall_mem_cons.mpr ⟨⟨(fun z h => by cases h), (fun x h => by cases h; exact tb3 (i := 82) rfl rfl)⟩, List.forall_mem_nil _⟩⟩
def ftX5 : List (Nat × Nat × Nat) := [(13, 5, 0), (17, 5, 1)]
def ltX5 : List (Nat × MV) := [(38, mI (1000000))]
set_option maxRecDepth 100000 in
theorem ftX5_ok : ∀ q ∈ ftX5, ∃ r : vw_C, vwCl[q.2.1]? = some r ∧ q.2.2 < r.2.2 ∧ Jvm.Cond.fieldLink RX5 q.1 (r.2.1 q.2.2).1 (r.2.1 q.2.2).2.1 (r.2.1 q.2.2).2.2.1 ∈ mm_gt := by
  exact List.forall_mem_cons.mpr ⟨⟨(RX5, TX5, 2), rfl, (by decide), tb2 (i := 46) rfl rfl⟩, List.forall_mem_cons.mpr ⟨⟨(RX5, TX5, 2), rfl, (by decide), tb2 (i := 47) rfl rfl⟩, List.forall_mem_nil _⟩⟩
theorem ltX5_ok : ∀ q ∈ ltX5, (∀ z : Int, q.2 = mI z → Jvm.Cond.constant RX5 q.1 (Int32.ofInt z) ∈ mm_gt) ∧ ∀ x : Int64, q.2 = mL x → Jvm.Cond.constantLong RX5 q.1 x ∈ mm_gt := by
  exact List.forall_mem_cons.mpr ⟨⟨(fun z h => by cases h; exact tb5 (i := 174) rfl rfl), (fun x h => by cases h)⟩, List.forall_mem_nil _⟩
def ftX6 : List (Nat × Nat × Nat) := [(9, 6, 0), (15, 6, 1), (19, 6, 2), (23, 1, 0), (33, 4, 0), (41, 1, 2)]
def ltX6 : List (Nat × MV) := []
set_option maxRecDepth 100000 in
theorem ftX6_ok : ∀ q ∈ ftX6, ∃ r : vw_C, vwCl[q.2.1]? = some r ∧ q.2.2 < r.2.2 ∧ Jvm.Cond.fieldLink RX6 q.1 (r.2.1 q.2.2).1 (r.2.1 q.2.2).2.1 (r.2.1 q.2.2).2.2.1 ∈ mm_gt := by
  exact List.forall_mem_cons.mpr ⟨⟨(RX6, TX6, 3), rfl, (by decide), tb1 (i := 132) rfl rfl⟩, List.forall_mem_cons.mpr ⟨⟨(RX6, TX6, 3), rfl, (by decide), tb1 (i := 133) rfl rfl⟩, List.forall_mem_cons.mpr ⟨⟨(RX6, TX6, 3), rfl, (by decide), tb1 (i := 134) rfl rfl⟩, List.forall_mem_cons.mpr ⟨⟨(RX1, TX1, 13), rfl, (by decide), tb1 (i := 35) rfl rfl⟩, List.forall_mem_cons.mpr ⟨⟨(RX4, TX4, 8), rfl, (by decide), tb1 (i := 93) rfl rfl⟩, List.forall_mem_cons.mpr ⟨⟨(RX1, TX1, 13), rfl, (by decide), tb1 (i := 42) rfl rfl⟩, List.forall_mem_nil _⟩⟩⟩⟩⟩⟩
def ftX7 : List (Nat × Nat × Nat) := [(11, 7, 1), (15, 7, 0), (19, 1, 2), (25, 7, 2), (42, 7, 3), (45, 7, 4)]
def ltX7 : List (Nat × MV) := []
set_option maxRecDepth 100000 in
theorem ftX7_ok : ∀ q ∈ ftX7, ∃ r : vw_C, vwCl[q.2.1]? = some r ∧ q.2.2 < r.2.2 ∧ Jvm.Cond.fieldLink RX7 q.1 (r.2.1 q.2.2).1 (r.2.1 q.2.2).2.1 (r.2.1 q.2.2).2.2.1 ∈ mm_gt := by
  exact List.forall_mem_cons.mpr ⟨⟨(RX7, TX7, 5), rfl, (by decide), tb1 (i := 168) rfl rfl⟩, List.forall_mem_cons.mpr ⟨⟨(RX7, TX7, 5), rfl, (by decide), tb1 (i := 167) rfl rfl⟩, List.forall_mem_cons.mpr ⟨⟨(RX1, TX1, 13), rfl, (by decide), tb1 (i := 40) rfl rfl⟩, List.forall_mem_cons.mpr ⟨⟨(RX7, TX7, 5), rfl, (by decide), tb1 (i := 169) rfl rfl⟩, List.forall_mem_cons.mpr ⟨⟨(RX7, TX7, 5), rfl, (by decide), tb1 (i := 170) rfl rfl⟩, List.forall_mem_cons.mpr ⟨⟨(RX7, TX7, 5), rfl, (by decide), tb1 (i := 171) rfl rfl⟩, List.forall_mem_nil _⟩⟩⟩⟩⟩⟩
def ftX8 : List (Nat × Nat × Nat) := [(13, 8, 3), (16, 8, 0), (20, 8, 1), (24, 8, 2), (27, 8, 4), (31, 2, 0), (40, 2, 2), (44, 2, 1), (67, 2, 3), (76, 2, 4), (115, 4, 1)]
def ltX8 : List (Nat × MV) := []
set_option maxRecDepth 100000 in
theorem ftX8_ok : ∀ q ∈ ftX8, ∃ r : vw_C, vwCl[q.2.1]? = some r ∧ q.2.2 < r.2.2 ∧ Jvm.Cond.fieldLink RX8 q.1 (r.2.1 q.2.2).1 (r.2.1 q.2.2).2.1 (r.2.1 q.2.2).2.2.1 ∈ mm_gt := by
  exact List.forall_mem_cons.mpr ⟨⟨(RX8, TX8, 5), rfl, (by decide), tb2 (i := 27) rfl rfl⟩, List.forall_mem_cons.mpr ⟨⟨(RX8, TX8, 5), rfl, (by decide), tb2 (i := 24) rfl rfl⟩, List.forall_mem_cons.mpr ⟨⟨(RX8, TX8, 5), rfl, (by decide), tb2 (i := 25) rfl rfl⟩, List.forall_mem_cons.mpr ⟨⟨(RX8, TX8, 5), rfl, (by decide), tb2 (i := 26) rfl rfl⟩, List.forall_mem_cons.mpr ⟨⟨(RX8, TX8, 5), rfl, (by decide), tb2 (i := 28) rfl rfl⟩, List.forall_mem_cons.mpr ⟨⟨(RX2, TX2, 5), rfl, (by decide), tb1 (i := 197) rfl rfl⟩, List.forall_mem_cons.mpr ⟨⟨(RX2, TX2, 5), rfl, (by decide), tb1 (i := 201) rfl rfl⟩, List.forall_mem_cons.mpr ⟨⟨(RX2, TX2, 5), rfl, (by decide), tb1 (i := 199) rfl rfl⟩, List.forall_mem_cons.mpr ⟨⟨(RX2, TX2, 5), rfl, (by decide), tb1 (i := 203) rfl rfl⟩, List.forall_mem_cons.mpr ⟨⟨(RX2, TX2, 5), rfl, (by decide), tb1 (i := 205) rfl rfl⟩, List.forall_mem_cons.mpr ⟨⟨(RX4, TX4, 8), rfl, (by decide), tb1 (i := 98) rfl rfl⟩, List.forall_mem_nil _⟩⟩⟩⟩⟩⟩⟩⟩⟩⟩⟩
def ftX9 : List (Nat × Nat × Nat) := [(10, 9, 0), (19, 9, 1), (25, 9, 8), (28, 9, 9), (32, 9, 10), (40, 9, 2), (49, 9, 3), (56, 9, 4), (63, 9, 5), (72, 9, 6), (79, 9, 7), (83, 9, 12), (95, 9, 11), (116, 3, 2), (117, 3, 1), (120, 3, 0), (132, 4, 1), (145, 1, 0), (148, 1, 1), (151, 1, 2), (154, 4, 0), (157, 1, 4), (160, 1, 3)]
def ltX9 : List (Nat × MV) := []
set_option maxRecDepth 100000 in
theorem ftX9_ok : ∀ q ∈ ftX9, ∃ r : vw_C, vwCl[q.2.1]? = some r ∧ q.2.2 < r.2.2 ∧ Jvm.Cond.fieldLink RX9 q.1 (r.2.1 q.2.2).1 (r.2.1 q.2.2).2.1 (r.2.1 q.2.2).2.2.1 ∈ mm_gt := by
  exact List.forall_mem_cons.mpr ⟨⟨(RX9, TX9, 13), rfl, (by decide), tb2 (i := 147) rfl rfl⟩, List.forall_mem_cons.mpr ⟨⟨(RX9, TX9, 13), rfl, (by decide), tb2 (i := 148) rfl rfl⟩, List.forall_mem_cons.mpr ⟨⟨(RX9, TX9, 13), rfl, (by decide), tb2 (i := 155) rfl rfl⟩, List.forall_mem_cons.mpr ⟨⟨(RX9, TX9, 13), rfl, (by decide), tb2 (i := 156) rfl rfl⟩, List.forall_mem_cons.mpr ⟨⟨(RX9, TX9, 13), rfl, (by decide), tb2 (i := 157) rfl rfl⟩, List.forall_mem_cons.mpr ⟨⟨(RX9, TX9, 13), rfl, (by decide), tb2 (i := 149) rfl rfl⟩, List.forall_mem_cons.mpr ⟨⟨(RX9, TX9, 13), rfl, (by decide), tb2 (i := 150) rfl rfl⟩, List.forall_mem_cons.mpr ⟨⟨(RX9, TX9, 13), rfl, (by decide), tb2 (i := 151) rfl rfl⟩, List.forall_mem_cons.mpr ⟨⟨(RX9, TX9, 13), rfl, (by decide), tb2 (i := 152) rfl rfl⟩, List.forall_mem_cons.mpr ⟨⟨(RX9, TX9, 13), rfl, (by decide), tb2 (i := 153) rfl rfl⟩, List.forall_mem_cons.mpr ⟨⟨(RX9, TX9, 13), rfl, (by decide), tb2 (i := 154) rfl rfl⟩, List.forall_mem_cons.mpr ⟨⟨(RX9, TX9, 13), rfl, (by decide), tb2 (i := 159) rfl rfl⟩, List.forall_mem_cons.mpr ⟨⟨(RX9, TX9, 13), rfl, (by decide), tb2 (i := 158) rfl rfl⟩, List.forall_mem_cons.mpr ⟨⟨(RX3, TX3, 12), rfl, (by decide), tb1 (i := 222) rfl rfl⟩, List.forall_mem_cons.mpr ⟨⟨(RX3, TX3, 12), rfl, (by decide), tb1 (i := 220) rfl rfl⟩, List.forall_mem_cons.mpr ⟨⟨(RX3, TX3, 12), rfl, (by decide), tb1 (i := 218) rfl rfl⟩, List.forall_mem_cons.mpr ⟨⟨(RX4, TX4, 8), rfl, (by decide), tb1 (i := 96) rfl rfl⟩, List.forall_mem_cons.mpr ⟨⟨(RX1, TX1, 13), rfl, (by decide), tb1 (i := 37) rfl rfl⟩, List.forall_mem_cons.mpr ⟨⟨(RX1, TX1, 13), rfl, (by decide), tb1 (i := 39) rfl rfl⟩, List.forall_mem_cons.mpr ⟨⟨(RX1, TX1, 13), rfl, (by decide), tb1 (i := 44) rfl rfl⟩, List.forall_mem_cons.mpr ⟨⟨(RX4, TX4, 8), rfl, (by decide), tb1 (i := 94) rfl rfl⟩, List.forall_mem_cons.mpr ⟨⟨(RX1, TX1, 13), rfl, (by decide), tb1 (i := 48) rfl rfl⟩, List.forall_mem_cons.mpr ⟨⟨(RX1, TX1, 13), rfl, (by decide), tb1 (i := 46) rfl rfl⟩, List.forall_mem_nil _⟩⟩⟩⟩⟩⟩⟩⟩⟩⟩⟩⟩⟩⟩⟩⟩⟩⟩⟩⟩⟩⟩⟩

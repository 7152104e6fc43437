theorem mem_r {ws : List Cond} (ps : List Nat) (hp : ws = ps.filterMap (fun i => lw_tbl[i]?)) (h : ws.all stw = true) : ∀ w ∈ ws, w ∈ tbs := by
  intro w hw
  refine tbs_of ?_ (List.all_eq_true.mp h w hw)
  rw [hp] at hw
  obtain ⟨i, -, hi⟩ := List.mem_filterMap.mp hw
  exact List.mem_of_getElem? hi
theorem inX0 : ∀ w ∈ u_ws RX0 TX0 3, w ∈ tbs := mem_r [150, 152, 154] (by decide +kernel) (by decide +kernel)
theorem inX1 : ∀ w ∈ u_ws RX1 TX1 8, w ∈ tbs := mem_r [199, 201, 203, 205, 207, 209, 211, 213] (by decide +kernel) (by decide +kernel)
theorem inX2 : ∀ w ∈ u_ws RX2 TX2 3, w ∈ tbs := mem_r [256, 258, 260] (by decide +kernel) (by decide +kernel)
theorem inX3 : ∀ w ∈ u_ws RX3 TX3 7, w ∈ tbs := mem_r [126, 128, 130, 132, 134, 136, 138] (by decide +kernel) (by decide +kernel)
theorem inX4 : ∀ w ∈ u_ws RX4 TX4 7, w ∈ tbs := mem_r [230, 232, 234, 236, 238, 240, 242] (by decide +kernel) (by decide +kernel)
theorem inX5 : ∀ w ∈ u_ws RX5 TX5 5, w ∈ tbs := mem_r [169, 171, 173, 175, 177] (by decide +kernel) (by decide +kernel)
theorem inX6 : ∀ w ∈ u_ws RX6 TX6 2, w ∈ tbs := mem_r [89, 91] (by decide +kernel) (by decide +kernel)
theorem inX7 : ∀ w ∈ u_ws RX7 TX7 14, w ∈ tbs := mem_r [277, 279, 281, 283, 285, 287, 289, 291, 293, 295, 297, 299, 301, 303] (by decide +kernel) (by decide +kernel)
theorem inX8 : ∀ w ∈ u_ws RX8 TX8 31, w ∈ tbs := mem_r [890, 892, 894, 896, 898, 900, 902, 904, 906, 908, 910, 912, 914, 916, 918, 920, 922, 924, 926, 928, 930, 932, 934, 936, 938, 940, 942, 944, 946, 948, 950] (by decide +kernel) (by decide +kernel)

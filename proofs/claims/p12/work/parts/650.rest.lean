/-! the rest of become behind its head, both ways (written by wip/p14/find/rest.py) -/
def bw_i : AWr := [(27, 7, 7), (27, 9, 9), (27, 11, 11), (27, 13, 13), (34, 0, 79), (35, 0, 40), (36, 0, 19), (37, 0, 0), (38, 0, 23), (39, 0, 23)]
def bk_i : ACut := ((71, [some (avR 27), some (avR 14), none], [], []), 13, [0, 0, 0])
def bp_i : APm := (w_W, w_P, xm_X5_become, ((54, [avR 27, avR 14], [(none, [], [])], [(27, 7, 7), (27, 9, 9), (27, 11, 11), (27, 13, 13), (34, 0, 79), (35, 0, 40), (36, 0, 19), (37, 0, 0), (38, 0, 23), (39, 0, 23)], 3), [], 1, 5), [(99, c_209), (124, c_210), (143, c_211), (162, c_212)], [], [bk_i, ((81, [some (avR 27), some (avR 14), some (avI 0 6)], [], []), 12, [0, 0, (-2)])])
theorem bt_i : bp_i.2.2.2.2.2.2.all (acut0 bp_i 3000) = true := by decide +kernel
theorem br_i {h : XH} (hI : AInv w_W h) (hP : PInv w_W w_P h []) {l2 : Option Value} (hl : ∀ v, l2 = some v → v.category ≠ 2) : ∃ h1 : XH, XGo 2 xm_X5_become (71, [some (.ref 42), some (.ref 14), l2], [], h) none h1 ∧ AInv w_W h1 ∧ PInv w_W w_P h1 [] ∧ AFr w_W bw_i h h1 := becr (p := bp_i) (cut := bk_i) (ac_c h_209 (ac_c h_210 (ac_c h_211 (ac_c h_212 ac_n)))) bt_i List.mem_cons_self ⟨rfl, rfl, rfl, rfl, rfl, rfl, rfl⟩ w_ga42 w_ga14 hI hP hl
theorem g_220 : AHp w_W w_P0 c_220 := achk_ok (p := (w_W, w_P0, xm_X6_copy, c_220, [], [], [])) (n := 3000) w_k ac_n ⟨rfl, rfl, rfl, rfl⟩ (by decide +kernel)
theorem g_221 : AHp w_W w_P0 c_221 := achk_ok (p := (w_W, w_P0, xm_X6_copy, c_221, [], [], [])) (n := 3000) w_k ac_n ⟨rfl, rfl, rfl, rfl⟩ (by decide +kernel)
theorem g_222 : AHp w_W w_P0 c_222 := achk_ok (p := (w_W, w_P0, xm_X1_repeat, c_222, [(16, c_220), (27, c_221)], [], [])) (n := 3000) w_k (ac_c g_220 (ac_c g_221 ac_n)) ⟨rfl, rfl, rfl, rfl⟩ (by decide +kernel)
theorem g_223 : AHp w_W w_P0 c_223 := achk_ok (p := (w_W, w_P0, xm_X6_copy, c_223, [], [], [])) (n := 3000) w_k ac_n ⟨rfl, rfl, rfl, rfl⟩ (by decide +kernel)
theorem g_224 : AHp w_W w_P0 c_224 := achk_ok (p := (w_W, w_P0, xm_X6_copy, c_224, [], [], [])) (n := 3000) w_k ac_n ⟨rfl, rfl, rfl, rfl⟩ (by decide +kernel)
theorem g_225 : AHp w_W w_P0 c_225 := achk_ok (p := (w_W, w_P0, xm_X6_copy, c_225, [], [], [])) (n := 3000) w_k ac_n ⟨rfl, rfl, rfl, rfl⟩ (by decide +kernel)
def bw_u : AWr := [(14, 7, 7), (14, 9, 9), (14, 11, 11), (14, 13, 13), (21, 0, 79), (22, 0, 40), (23, 0, 19), (24, 0, 0), (25, 0, 23), (26, 0, 23)]
def bk_u : ACut := ((71, [some (avR 14), some (avR 27), none], [], []), 13, [0, 0, 0])
def bp_u : APm := (w_W, w_P0, xm_X5_become, ((54, [avR 14, avR 27], [(none, [], [])], [(14, 7, 7), (14, 9, 9), (14, 11, 11), (14, 13, 13), (21, 0, 79), (22, 0, 40), (23, 0, 19), (24, 0, 0), (25, 0, 23), (26, 0, 23)], 3), [], 1, 5), [(99, c_222), (124, c_223), (143, c_224), (162, c_225)], [], [bk_u, ((81, [some (avR 14), some (avR 27), some (avI 0 6)], [], []), 12, [0, 0, (-2)])])
theorem bt_u : bp_u.2.2.2.2.2.2.all (acut0 bp_u 3000) = true := by decide +kernel
theorem br_u {h : XH} (hI : AInv w_W h) (hP : PInv w_W w_P0 h []) {l2 : Option Value} (hl : ∀ v, l2 = some v → v.category ≠ 2) : ∃ h1 : XH, XGo 2 xm_X5_become (71, [some (.ref 14), some (.ref 42), l2], [], h) none h1 ∧ AInv w_W h1 ∧ PInv w_W w_P0 h1 [] ∧ AFr w_W bw_u h h1 := becr (p := bp_u) (cut := bk_u) (ac_c g_222 (ac_c g_223 (ac_c g_224 (ac_c g_225 ac_n)))) bt_u List.mem_cons_self ⟨rfl, rfl, rfl, rfl, rfl, rfl, rfl⟩ w_ga14 w_ga42 hI hP hl

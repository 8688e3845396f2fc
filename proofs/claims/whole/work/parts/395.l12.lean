set_option maxRecDepth 1000000 in
set_option maxHeartbeats 4000000 in
theorem cl_L_12 : jcN RL 12 yX12_init cX12_init 1 0 := ⟨rfl, jt_all [1336, 1337, 137] (by decide +kernel) (by decide +kernel), jt_in (i := 1338) rfl rfl, by decide +kernel, by decide +kernel, by decide +kernel⟩

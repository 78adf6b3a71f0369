/-! the check -/
set_option maxRecDepth 1000000 in
theorem ai_okY_0 : (List.range' 0 52).all ai_okY = true := by decide +kernel
set_option maxRecDepth 1000000 in
theorem ai_okY_52 : (List.range' 52 52).all ai_okY = true := by decide +kernel
set_option maxRecDepth 1000000 in
theorem ai_okY_104 : (List.range' 104 52).all ai_okY = true := by decide +kernel
set_option maxRecDepth 1000000 in
theorem ai_okY_156 : (List.range' 156 50).all ai_okY = true := by decide +kernel
set_option maxRecDepth 1000000 in
set_option maxHeartbeats 4000000 in
theorem ai_okW_0 : (List.range' 0 103).map (fun m => ai_nth (ai_wl ((ai_ww m).1 / 1000)) ((ai_ww m).1 % 1000)) = (List.range' 0 103).map (fun m => some (ai_cw m)) := rfl
set_option maxRecDepth 1000000 in
set_option maxHeartbeats 4000000 in
theorem ai_okW_103 : (List.range' 103 103).map (fun m => ai_nth (ai_wl ((ai_ww m).1 / 1000)) ((ai_ww m).1 % 1000)) = (List.range' 103 103).map (fun m => some (ai_cw m)) := rfl

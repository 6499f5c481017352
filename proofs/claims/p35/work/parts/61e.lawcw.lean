/-! WORDS of the longest methods, by their places -/
set_option maxRecDepth 100000 in
theorem cw_L_refuses : Cond.code yL_refuses cL_refuses 4 (some .boolean) ∈ sm_W := sm_ix 767 rfl rfl
set_option maxRecDepth 100000 in
theorem cw_L_told : Cond.code yL_told cL_told 14 (some .boolean) ∈ sm_W := sm_ix 661 rfl rfl
set_option maxRecDepth 100000 in
theorem cw_L_hands : Cond.code yL_hands cL_hands 22 (some .boolean) ∈ sm_W := sm_ix 1001 rfl rfl
set_option maxRecDepth 100000 in
theorem cw_L_hours : Cond.code yL_hours cL_hours 25 (some .boolean) ∈ sm_W := sm_ix 995 rfl rfl
set_option maxRecDepth 100000 in
theorem cw_L_sound : Cond.code yL_sound cL_sound 15 (some .boolean) ∈ sm_W := sm_ix 992 rfl rfl
set_option maxRecDepth 100000 in
theorem cw_L_scripts : Cond.code yL_scripts cL_scripts 9 (some .boolean) ∈ sm_W := sm_ix 1017 rfl rfl
set_option maxRecDepth 100000 in
theorem cw_L_act : Cond.code yL_act cL_act 7 (some .int) ∈ sm_W := sm_ix 1043 rfl rfl
set_option maxRecDepth 100000 in
theorem cw_L_alike : Cond.code yL_alike cL_alike 4 (some .boolean) ∈ sm_W := sm_ix 719 rfl rfl

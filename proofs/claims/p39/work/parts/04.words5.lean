set_option maxRecDepth 100000 in
set_option maxHeartbeats 4000000 in
theorem q442 : Cond.code yL_cell cL_cell 2 (some .int) ∈ TB := TBm 442 (by rfl) rfl
set_option maxRecDepth 100000 in
set_option maxHeartbeats 4000000 in
theorem q446 : Cond.code yL_boxes cL_boxes 10 (some .boolean) ∈ TB := TBm 446 (by rfl) rfl
set_option maxRecDepth 100000 in
set_option maxHeartbeats 4000000 in
theorem q468 : Cond.code yL_allOpen cL_allOpen 4 (some .boolean) ∈ TB := TBm 468 (by rfl) rfl
set_option maxRecDepth 100000 in
set_option maxHeartbeats 4000000 in
theorem q545 : Cond.code yL_clues cL_clues 10 (some .boolean) ∈ TB := TBm 545 (by rfl) rfl
set_option maxRecDepth 100000 in
set_option maxHeartbeats 4000000 in
theorem q561 : Cond.code yL_groups cL_groups 7 (some .boolean) ∈ TB := TBm 561 (by rfl) rfl
set_option maxRecDepth 100000 in
set_option maxHeartbeats 4000000 in
theorem q578 : Cond.code yL_max cL_max 2 (some .int) ∈ TB := TBm 578 (by rfl) rfl
set_option maxRecDepth 100000 in
set_option maxHeartbeats 4000000 in
theorem q585 : Cond.code yL_build cL_build 12 (some .boolean) ∈ TB := TBm 585 (by rfl) rfl
set_option maxRecDepth 100000 in
set_option maxHeartbeats 4000000 in
theorem q588 : Cond.code yL_low cL_low 2 (some .int) ∈ TB := TBm 588 (by rfl) rfl
set_option maxRecDepth 100000 in
set_option maxHeartbeats 4000000 in
theorem q592 : Cond.code yL_types cL_types 5 none ∈ TB := TBm 592 (by rfl) rfl
set_option maxRecDepth 100000 in
set_option maxHeartbeats 4000000 in
theorem q707 : Cond.code yL_acts cL_acts 14 (some .boolean) ∈ TB := TBm 707 (by rfl) rfl
set_option maxRecDepth 100000 in
set_option maxHeartbeats 4000000 in
theorem q710 : Cond.code yL_does cL_does 7 (some .boolean) ∈ TB := TBm 710 (by rfl) rfl
set_option maxRecDepth 100000 in
set_option maxHeartbeats 4000000 in
theorem q826 : Cond.code yL_between cL_between 11 (some .boolean) ∈ TB := TBm 826 (by rfl) rfl
set_option maxRecDepth 100000 in
set_option maxHeartbeats 4000000 in
theorem q889 : Cond.code yL_log cL_log 7 (some .boolean) ∈ TB := TBm 889 (by rfl) rfl
set_option maxRecDepth 100000 in
set_option maxHeartbeats 4000000 in
theorem q896 : Cond.code yL_errors cL_errors 6 (some .boolean) ∈ TB := TBm 896 (by rfl) rfl

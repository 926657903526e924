set_option maxRecDepth 100000 in
set_option maxHeartbeats 4000000 in
theorem CO_words : am_CO.map (fun k => Cond.code (am_y k) (am_code k) (am_maxL k) (am_ret k)) = am_COP.filterMap (fun i => tables_1[i]?) := rfl

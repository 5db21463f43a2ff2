set_option maxRecDepth 100000 in
theorem tb_rows8 : (rw_L_law.drop 58).all (fun ch => ch.all (okR md_L_law)) = true := by decide +kernel

set_option maxRecDepth 100000 in
theorem tb_rows6 : ((rw_L_law.drop 20).take 20).all (fun ch => ch.all (okR md_L_law)) = true := by decide +kernel

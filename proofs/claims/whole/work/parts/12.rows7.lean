set_option maxRecDepth 100000 in
theorem tb_rows7 : ((rw_L_law.drop 40).take 18).all (fun ch => ch.all (okR md_L_law)) = true := by decide +kernel

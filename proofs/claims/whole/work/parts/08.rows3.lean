set_option maxRecDepth 100000 in
theorem tb_rows3 : ((mdT.drop 120).take 40).all okMD = true := by decide +kernel

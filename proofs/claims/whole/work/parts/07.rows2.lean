set_option maxRecDepth 100000 in
theorem tb_rows2 : ((mdT.drop 60).take 60).all okMD = true := by decide +kernel

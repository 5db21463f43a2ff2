set_option maxRecDepth 100000 in
theorem tb_rows4 : ((mdT.drop 160).take 39).all okMD = true := by decide +kernel

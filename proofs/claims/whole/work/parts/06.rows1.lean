set_option maxRecDepth 100000 in
theorem tb_rows1 : (mdT.take 60).all okMD = true := by decide +kernel

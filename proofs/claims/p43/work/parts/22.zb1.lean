set_option maxRecDepth 16384 in
theorem zz_o1_0 : tables_1_1.all zzp = true := by decide +kernel
theorem zz_o1 : tables_1_1.all zzp = true := zz_o1_0

set_option maxRecDepth 16384 in
theorem zz_o3_0 : tables_1_3.all zzp = true := by decide +kernel
theorem zz_o3 : tables_1_3.all zzp = true := zz_o3_0

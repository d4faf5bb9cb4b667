set_option maxRecDepth 16384 in
theorem zz_o2_0 : tables_1_2.all zzp = true := by decide +kernel
theorem zz_o2 : tables_1_2.all zzp = true := zz_o2_0

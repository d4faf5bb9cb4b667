set_option maxRecDepth 16384 in
theorem zz_o4_0 : tables_1_4.all zzp = true := by decide +kernel
theorem zz_o4 : tables_1_4.all zzp = true := zz_o4_0

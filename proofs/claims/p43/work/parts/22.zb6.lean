set_option maxRecDepth 16384 in
theorem zz_o6_0 : tables_1_6.all zzp = true := by decide +kernel
theorem zz_o6 : tables_1_6.all zzp = true := zz_o6_0

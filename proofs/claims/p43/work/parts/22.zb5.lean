set_option maxRecDepth 16384 in
theorem zz_o5_0 : tables_1_5.all zzp = true := by decide +kernel
theorem zz_o5 : tables_1_5.all zzp = true := zz_o5_0

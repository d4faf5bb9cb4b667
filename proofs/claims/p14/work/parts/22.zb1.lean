set_option maxRecDepth 16384 in
theorem zz_o1_0 : (tables_1_1.take 40).all zzp = true := by decide +kernel
set_option maxRecDepth 16384 in
theorem zz_o1_1 : ((tables_1_1.drop 40).take 40).all zzp = true := by decide +kernel
set_option maxRecDepth 16384 in
theorem zz_o1_2 : (((tables_1_1.drop 40).drop 40).take 40).all zzp = true := by decide +kernel
set_option maxRecDepth 16384 in
theorem zz_o1_3 : ((((tables_1_1.drop 40).drop 40).drop 40).take 40).all zzp = true := by decide +kernel
set_option maxRecDepth 16384 in
theorem zz_o1_4 : (((((tables_1_1.drop 40).drop 40).drop 40).drop 40).take 40).all zzp = true := by decide +kernel
set_option maxRecDepth 16384 in
theorem zz_o1_5 : (((((tables_1_1.drop 40).drop 40).drop 40).drop 40).drop 40).all zzp = true := by decide +kernel
theorem zz_o1 : tables_1_1.all zzp = true := zz_cut zz_o1_0 (zz_cut zz_o1_1 (zz_cut zz_o1_2 (zz_cut zz_o1_3 (zz_cut zz_o1_4 (zz_o1_5)))))

set_option maxRecDepth 16384 in
theorem zz_o2_0 : (tables_1_2.take 40).all zzp = true := by decide +kernel
set_option maxRecDepth 16384 in
theorem zz_o2_1 : ((tables_1_2.drop 40).take 40).all zzp = true := by decide +kernel
set_option maxRecDepth 16384 in
theorem zz_o2_2 : (((tables_1_2.drop 40).drop 40).take 40).all zzp = true := by decide +kernel
set_option maxRecDepth 16384 in
theorem zz_o2_3 : ((((tables_1_2.drop 40).drop 40).drop 40).take 40).all zzp = true := by decide +kernel
set_option maxRecDepth 16384 in
theorem zz_o2_4 : (((((tables_1_2.drop 40).drop 40).drop 40).drop 40).take 40).all zzp = true := by decide +kernel
set_option maxRecDepth 16384 in
theorem zz_o2_5 : (((((tables_1_2.drop 40).drop 40).drop 40).drop 40).drop 40).all zzp = true := by decide +kernel
theorem zz_o2 : tables_1_2.all zzp = true := zz_cut zz_o2_0 (zz_cut zz_o2_1 (zz_cut zz_o2_2 (zz_cut zz_o2_3 (zz_cut zz_o2_4 (zz_o2_5)))))

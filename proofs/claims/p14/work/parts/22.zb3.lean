set_option maxRecDepth 16384 in
theorem zz_o3_0 : (tables_1_3.take 40).all zzp = true := by decide +kernel
set_option maxRecDepth 16384 in
theorem zz_o3_1 : ((tables_1_3.drop 40).take 40).all zzp = true := by decide +kernel
set_option maxRecDepth 16384 in
theorem zz_o3_2 : (((tables_1_3.drop 40).drop 40).take 40).all zzp = true := by decide +kernel
set_option maxRecDepth 16384 in
theorem zz_o3_3 : ((((tables_1_3.drop 40).drop 40).drop 40).take 40).all zzp = true := by decide +kernel
set_option maxRecDepth 16384 in
theorem zz_o3_4 : (((((tables_1_3.drop 40).drop 40).drop 40).drop 40).take 40).all zzp = true := by decide +kernel
set_option maxRecDepth 16384 in
theorem zz_o3_5 : (((((tables_1_3.drop 40).drop 40).drop 40).drop 40).drop 40).all zzp = true := by decide +kernel
theorem zz_o3 : tables_1_3.all zzp = true := zz_cut zz_o3_0 (zz_cut zz_o3_1 (zz_cut zz_o3_2 (zz_cut zz_o3_3 (zz_cut zz_o3_4 (zz_o3_5)))))

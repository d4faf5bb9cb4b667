set_option maxRecDepth 16384 in
theorem zz_o5_0 : (tables_1_5.take 40).all zzp = true := by decide +kernel
set_option maxRecDepth 16384 in
theorem zz_o5_1 : ((tables_1_5.drop 40).take 40).all zzp = true := by decide +kernel
set_option maxRecDepth 16384 in
theorem zz_o5_2 : (((tables_1_5.drop 40).drop 40).take 40).all zzp = true := by decide +kernel
set_option maxRecDepth 16384 in
theorem zz_o5_3 : ((((tables_1_5.drop 40).drop 40).drop 40).take 40).all zzp = true := by decide +kernel
set_option maxRecDepth 16384 in
theorem zz_o5_4 : (((((tables_1_5.drop 40).drop 40).drop 40).drop 40).take 40).all zzp = true := by decide +kernel
set_option maxRecDepth 16384 in
theorem zz_o5_5 : (((((tables_1_5.drop 40).drop 40).drop 40).drop 40).drop 40).all zzp = true := by decide +kernel
theorem zz_o5 : tables_1_5.all zzp = true := zz_cut zz_o5_0 (zz_cut zz_o5_1 (zz_cut zz_o5_2 (zz_cut zz_o5_3 (zz_cut zz_o5_4 (zz_o5_5)))))

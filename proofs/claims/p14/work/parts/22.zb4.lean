set_option maxRecDepth 16384 in
theorem zz_o4_0 : (tables_1_4.take 40).all zzp = true := by decide +kernel
set_option maxRecDepth 16384 in
theorem zz_o4_1 : ((tables_1_4.drop 40).take 40).all zzp = true := by decide +kernel
set_option maxRecDepth 16384 in
theorem zz_o4_2 : (((tables_1_4.drop 40).drop 40).take 40).all zzp = true := by decide +kernel
set_option maxRecDepth 16384 in
theorem zz_o4_3 : ((((tables_1_4.drop 40).drop 40).drop 40).take 40).all zzp = true := by decide +kernel
set_option maxRecDepth 16384 in
theorem zz_o4_4 : (((((tables_1_4.drop 40).drop 40).drop 40).drop 40).take 40).all zzp = true := by decide +kernel
set_option maxRecDepth 16384 in
theorem zz_o4_5 : (((((tables_1_4.drop 40).drop 40).drop 40).drop 40).drop 40).all zzp = true := by decide +kernel
theorem zz_o4 : tables_1_4.all zzp = true := zz_cut zz_o4_0 (zz_cut zz_o4_1 (zz_cut zz_o4_2 (zz_cut zz_o4_3 (zz_cut zz_o4_4 (zz_o4_5)))))

set_option maxRecDepth 16384 in
theorem zz_o6_0 : (tables_1_6.take 40).all zzp = true := by decide +kernel
set_option maxRecDepth 16384 in
theorem zz_o6_1 : ((tables_1_6.drop 40).take 40).all zzp = true := by decide +kernel
set_option maxRecDepth 16384 in
theorem zz_o6_2 : (((tables_1_6.drop 40).drop 40).take 40).all zzp = true := by decide +kernel
set_option maxRecDepth 16384 in
theorem zz_o6_3 : ((((tables_1_6.drop 40).drop 40).drop 40).take 40).all zzp = true := by decide +kernel
set_option maxRecDepth 16384 in
theorem zz_o6_4 : ((((tables_1_6.drop 40).drop 40).drop 40).drop 40).all zzp = true := by decide +kernel
theorem zz_o6 : tables_1_6.all zzp = true := zz_cut zz_o6_0 (zz_cut zz_o6_1 (zz_cut zz_o6_2 (zz_cut zz_o6_3 (zz_o6_4))))

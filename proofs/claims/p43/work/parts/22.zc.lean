theorem zz_all : tables_1.all zzp = true := zz_app zz_o1 (zz_app zz_o2 (zz_app zz_o3 (zz_app zz_o4 (zz_app zz_o5 (zz_o6)))))
theorem zz1.words : ∀ c ∈ (Cond.code x code maxLocals ret :: tables_1), c.before zz1.args0 zz1.about = true := zz_words start1.words (zz_cons zz_all)

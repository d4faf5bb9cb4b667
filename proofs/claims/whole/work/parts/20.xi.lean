/-- the premise of Pre_x holds at the printed witness (so mended_1, mended_2 say something) -/
theorem mended_meets : (Cond.exactly tWP "[I").before start1.args0 start1.about = true := by decide +kernel

/-! the layout at the start -/
set_option maxRecDepth 100000 in
theorem init_f0 : ((zFL.drop 0).take 200).all (zFc zhI.1) = true := by decide +kernel
set_option maxRecDepth 100000 in
theorem init_h : zHL.all (zFc zhI.1) = true := by decide +kernel
set_option maxRecDepth 100000 in
theorem init_w0 : ((zWL.drop 0).take 40).all (zWc zhI.1) = true := by decide +kernel

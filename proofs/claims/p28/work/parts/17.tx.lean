set_option maxRecDepth 100000 in
theorem tx_IO : TX RX3 239 "java/lang/IndexOutOfBoundsException" := by unfold TX; decide +kernel
set_option maxRecDepth 100000 in
theorem tx_IA : TX RX3 40 "java/lang/IllegalArgumentException" := by unfold TX; decide +kernel
set_option maxRecDepth 100000 in
theorem tx_IS : TX RX3 51 "java/lang/IllegalStateException" := by unfold TX; decide +kernel

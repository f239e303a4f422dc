set_option maxRecDepth 100000 in
theorem zat_IllegalArgumentException : ztOk (Bundle.ownAtoms "FootprintRules" 85 "java/lang/IllegalArgumentException" ["java/lang/RuntimeException", "java/lang/Exception"]) := by
  unfold ztOk
  decide +kernel
set_option maxRecDepth 100000 in
theorem zat_IllegalStateException : ztOk (Bundle.ownAtoms "FootprintRules" 60 "java/lang/IllegalStateException" ["java/lang/RuntimeException", "java/lang/Exception"]) := by
  unfold ztOk
  decide +kernel
set_option maxRecDepth 100000 in
theorem zat_IndexOutOfBoundsException : ztOk (Bundle.ownAtoms "FootprintRules" 74 "java/lang/IndexOutOfBoundsException" ["java/lang/RuntimeException", "java/lang/Exception"]) := by
  unfold ztOk
  decide +kernel

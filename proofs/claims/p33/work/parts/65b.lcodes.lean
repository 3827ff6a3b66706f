/-! the long methods' codes -/
set_option maxRecDepth 100000 in
theorem g784 : Cond.code yL_isSo cL_isSo 23 (some .boolean) ∈ gW := gm 784 (by rfl) (by decide +kernel)
set_option maxRecDepth 100000 in
theorem g882 : Cond.code yL_isTold cL_isTold 16 (some .boolean) ∈ gW := gm 882 (by rfl) (by decide +kernel)
set_option maxRecDepth 100000 in
theorem g892 : Cond.code yL_isSeat cL_isSeat 33 (some .boolean) ∈ gW := gm 892 (by rfl) (by decide +kernel)
set_option maxRecDepth 100000 in
theorem g901 : Cond.code yL_isShown cL_isShown 22 (some .boolean) ∈ gW := gm 901 (by rfl) (by decide +kernel)

/-! THE LAW: decoding, the rest (3) -/
set_option maxRecDepth 100000 in
theorem dp_cld_93 : dp_cl_93.all (dp_ckD code) = true := by decide +kernel
set_option maxRecDepth 100000 in
theorem dp_cld_94 : dp_cl_94.all (dp_ckD code) = true := by decide +kernel

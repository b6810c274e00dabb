/-! THE LAW: decoding, the rest -/
set_option maxRecDepth 100000 in
theorem dp_cld_88 : dp_cl_88.all (dp_ckD code) = true := by decide +kernel
set_option maxRecDepth 100000 in
theorem dp_cld_89 : dp_cl_89.all (dp_ckD code) = true := by decide +kernel
set_option maxRecDepth 100000 in
theorem dp_cld_90 : dp_cl_90.all (dp_ckD code) = true := by decide +kernel

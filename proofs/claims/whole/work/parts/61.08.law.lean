/-! THE LAW: decoding, the rest (2) -/
set_option maxRecDepth 100000 in
theorem dp_cld_91 : dp_cl_91.all (dp_ckD code) = true := by decide +kernel
set_option maxRecDepth 100000 in
theorem dp_cld_92 : dp_cl_92.all (dp_ckD code) = true := by decide +kernel

set_option maxRecDepth 100000 in
theorem dp_cld_80 : dp_cl_80.all (dp_ckD code) = true := by decide +kernel
set_option maxRecDepth 100000 in
theorem dp_cld_81 : dp_cl_81.all (dp_ckD code) = true := by decide +kernel
set_option maxRecDepth 100000 in
theorem dp_cld_82 : dp_cl_82.all (dp_ckD code) = true := by decide +kernel
set_option maxRecDepth 100000 in
theorem dp_cld_83 : dp_cl_83.all (dp_ckD code) = true := by decide +kernel
set_option maxRecDepth 100000 in
theorem dp_cld_84 : dp_cl_84.all (dp_ckD code) = true := by decide +kernel
set_option maxRecDepth 100000 in
theorem dp_cld_85 : dp_cl_85.all (dp_ckD code) = true := by decide +kernel
set_option maxRecDepth 100000 in
theorem dp_cld_86 : dp_cl_86.all (dp_ckD code) = true := by decide +kernel
set_option maxRecDepth 100000 in
theorem dp_cld_87 : dp_cl_87.all (dp_ckD code) = true := by decide +kernel

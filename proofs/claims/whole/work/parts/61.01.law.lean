set_option maxRecDepth 100000 in
theorem dp_cld_0 : dp_cl_0.all (dp_ckD code) = true := by decide +kernel
set_option maxRecDepth 100000 in
theorem dp_cld_1 : dp_cl_1.all (dp_ckD code) = true := by decide +kernel
set_option maxRecDepth 100000 in
theorem dp_cld_2 : dp_cl_2.all (dp_ckD code) = true := by decide +kernel
set_option maxRecDepth 100000 in
theorem dp_cld_3 : dp_cl_3.all (dp_ckD code) = true := by decide +kernel
set_option maxRecDepth 100000 in
theorem dp_cld_4 : dp_cl_4.all (dp_ckD code) = true := by decide +kernel
set_option maxRecDepth 100000 in
theorem dp_cld_5 : dp_cl_5.all (dp_ckD code) = true := by decide +kernel
set_option maxRecDepth 100000 in
theorem dp_cld_6 : dp_cl_6.all (dp_ckD code) = true := by decide +kernel
set_option maxRecDepth 100000 in
theorem dp_cld_7 : dp_cl_7.all (dp_ckD code) = true := by decide +kernel
set_option maxRecDepth 100000 in
theorem dp_cld_8 : dp_cl_8.all (dp_ckD code) = true := by decide +kernel
set_option maxRecDepth 100000 in
theorem dp_cld_9 : dp_cl_9.all (dp_ckD code) = true := by decide +kernel
set_option maxRecDepth 100000 in
theorem dp_cld_10 : dp_cl_10.all (dp_ckD code) = true := by decide +kernel
set_option maxRecDepth 100000 in
theorem dp_cld_11 : dp_cl_11.all (dp_ckD code) = true := by decide +kernel
set_option maxRecDepth 100000 in
theorem dp_cld_12 : dp_cl_12.all (dp_ckD code) = true := by decide +kernel
set_option maxRecDepth 100000 in
theorem dp_cld_13 : dp_cl_13.all (dp_ckD code) = true := by decide +kernel
set_option maxRecDepth 100000 in
theorem dp_cld_14 : dp_cl_14.all (dp_ckD code) = true := by decide +kernel
set_option maxRecDepth 100000 in
theorem dp_cld_15 : dp_cl_15.all (dp_ckD code) = true := by decide +kernel

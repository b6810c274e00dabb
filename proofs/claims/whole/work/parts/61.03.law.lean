set_option maxRecDepth 100000 in
theorem dp_cld_32 : dp_cl_32.all (dp_ckD code) = true := by decide +kernel
set_option maxRecDepth 100000 in
theorem dp_cld_33 : dp_cl_33.all (dp_ckD code) = true := by decide +kernel
set_option maxRecDepth 100000 in
theorem dp_cld_34 : dp_cl_34.all (dp_ckD code) = true := by decide +kernel
set_option maxRecDepth 100000 in
theorem dp_cld_35 : dp_cl_35.all (dp_ckD code) = true := by decide +kernel
set_option maxRecDepth 100000 in
theorem dp_cld_36 : dp_cl_36.all (dp_ckD code) = true := by decide +kernel
set_option maxRecDepth 100000 in
theorem dp_cld_37 : dp_cl_37.all (dp_ckD code) = true := by decide +kernel
set_option maxRecDepth 100000 in
theorem dp_cld_38 : dp_cl_38.all (dp_ckD code) = true := by decide +kernel
set_option maxRecDepth 100000 in
theorem dp_cld_39 : dp_cl_39.all (dp_ckD code) = true := by decide +kernel
set_option maxRecDepth 100000 in
theorem dp_cld_40 : dp_cl_40.all (dp_ckD code) = true := by decide +kernel
set_option maxRecDepth 100000 in
theorem dp_cld_41 : dp_cl_41.all (dp_ckD code) = true := by decide +kernel
set_option maxRecDepth 100000 in
theorem dp_cld_42 : dp_cl_42.all (dp_ckD code) = true := by decide +kernel
set_option maxRecDepth 100000 in
theorem dp_cld_43 : dp_cl_43.all (dp_ckD code) = true := by decide +kernel
set_option maxRecDepth 100000 in
theorem dp_cld_44 : dp_cl_44.all (dp_ckD code) = true := by decide +kernel
set_option maxRecDepth 100000 in
theorem dp_cld_45 : dp_cl_45.all (dp_ckD code) = true := by decide +kernel
set_option maxRecDepth 100000 in
theorem dp_cld_46 : dp_cl_46.all (dp_ckD code) = true := by decide +kernel
set_option maxRecDepth 100000 in
theorem dp_cld_47 : dp_cl_47.all (dp_ckD code) = true := by decide +kernel

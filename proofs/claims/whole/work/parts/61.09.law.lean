/-! THE LAW: decoding, the rest (3) -/
set_option maxRecDepth 100000 in
theorem dp_cld_93a : (dp_cl_93.take 20).all (dp_ckD code) = true := by decide +kernel
set_option maxRecDepth 100000 in
theorem dp_cld_93b : (dp_cl_93.drop 20).all (dp_ckD code) = true := by decide +kernel
theorem dp_cld_93 : dp_cl_93.all (dp_ckD code) = true := by
  rw [← List.take_append_drop 20 dp_cl_93, List.all_append, dp_cld_93a, dp_cld_93b]; rfl
set_option maxRecDepth 100000 in
theorem dp_cld_94a : (dp_cl_94.take 20).all (dp_ckD code) = true := by decide +kernel
set_option maxRecDepth 100000 in
theorem dp_cld_94b : (dp_cl_94.drop 20).all (dp_ckD code) = true := by decide +kernel
theorem dp_cld_94 : dp_cl_94.all (dp_ckD code) = true := by
  rw [← List.take_append_drop 20 dp_cl_94, List.all_append, dp_cld_94a, dp_cld_94b]; rfl
set_option maxRecDepth 100000 in
theorem dp_cld_95a : (dp_cl_95.take 20).all (dp_ckD code) = true := by decide +kernel
set_option maxRecDepth 100000 in
theorem dp_cld_95b : (dp_cl_95.drop 20).all (dp_ckD code) = true := by decide +kernel
theorem dp_cld_95 : dp_cl_95.all (dp_ckD code) = true := by
  rw [← List.take_append_drop 20 dp_cl_95, List.all_append, dp_cld_95a, dp_cld_95b]; rfl

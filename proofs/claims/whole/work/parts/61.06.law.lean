set_option maxRecDepth 100000 in
theorem dp_cld_80 : dp_cl_80.all (dp_ckD code) = true := by decide +kernel
set_option maxRecDepth 100000 in
theorem dp_cld_81 : dp_cl_81.all (dp_ckD code) = true := by decide +kernel
set_option maxRecDepth 100000 in
theorem dp_cld_82 : dp_cl_82.all (dp_ckD code) = true := by decide +kernel
set_option maxRecDepth 100000 in
theorem dp_cld_83 : dp_cl_83.all (dp_ckD code) = true := by decide +kernel
set_option maxRecDepth 100000 in
theorem dp_cld_84 : dp_cl_84.all (dp_ckD code) = true := by decide +kernel
set_option maxRecDepth 100000 in
theorem dp_cld_85 : dp_cl_85.all (dp_ckD code) = true := by decide +kernel
set_option maxRecDepth 100000 in
theorem dp_cld_86 : dp_cl_86.all (dp_ckD code) = true := by decide +kernel
set_option maxRecDepth 100000 in
theorem dp_cld_87 : dp_cl_87.all (dp_ckD code) = true := by decide +kernel
set_option maxRecDepth 100000 in
theorem dp_cld_88 : dp_cl_88.all (dp_ckD code) = true := by decide +kernel
set_option maxRecDepth 100000 in
theorem dp_cld_89 : dp_cl_89.all (dp_ckD code) = true := by decide +kernel
set_option maxRecDepth 100000 in
theorem dp_cld_90 : dp_cl_90.all (dp_ckD code) = true := by decide +kernel
set_option maxRecDepth 100000 in
theorem dp_cld_91 : dp_cl_91.all (dp_ckD code) = true := by decide +kernel
set_option maxRecDepth 100000 in
theorem dp_cld_92 : dp_cl_92.all (dp_ckD code) = true := by decide +kernel
set_option maxRecDepth 100000 in
theorem dp_cld_93 : dp_cl_93.all (dp_ckD code) = true := by decide +kernel
set_option maxRecDepth 100000 in
theorem dp_cld_94 : dp_cl_94.all (dp_ckD code) = true := by decide +kernel
set_option maxRecDepth 100000 in
theorem dp_cld_95 : dp_cl_95.all (dp_ckD code) = true := by decide +kernel
theorem dp_d_L_law : dp_InsOk dp_m_L_law := dp_ckD_ok (c := dp_c_L_law) (cc := code) (List.all_eq_true.mpr (List.forall_mem_cons.mpr ⟨dp_cld_0, List.forall_mem_cons.mpr ⟨dp_cld_1, List.forall_mem_cons.mpr ⟨dp_cld_2, List.forall_mem_cons.mpr ⟨dp_cld_3, List.forall_mem_cons.mpr ⟨dp_cld_4, List.forall_mem_cons.mpr ⟨dp_cld_5, List.forall_mem_cons.mpr ⟨dp_cld_6, List.forall_mem_cons.mpr ⟨dp_cld_7, List.forall_mem_cons.mpr ⟨dp_cld_8, List.forall_mem_cons.mpr ⟨dp_cld_9, List.forall_mem_cons.mpr ⟨dp_cld_10, List.forall_mem_cons.mpr ⟨dp_cld_11, List.forall_mem_cons.mpr ⟨dp_cld_12, List.forall_mem_cons.mpr ⟨dp_cld_13, List.forall_mem_cons.mpr ⟨dp_cld_14, List.forall_mem_cons.mpr ⟨dp_cld_15, List.forall_mem_cons.mpr ⟨dp_cld_16, List.forall_mem_cons.mpr ⟨dp_cld_17, List.forall_mem_cons.mpr ⟨dp_cld_18, List.forall_mem_cons.mpr ⟨dp_cld_19, List.forall_mem_cons.mpr ⟨dp_cld_20, List.forall_mem_cons.mpr ⟨dp_cld_21, List.forall_mem_cons.mpr ⟨dp_cld_22, List.forall_mem_cons.mpr ⟨dp_cld_23, List.forall_mem_cons.mpr ⟨dp_cld_24, List.forall_mem_cons.mpr ⟨dp_cld_25, List.forall_mem_cons.mpr ⟨dp_cld_26, List.forall_mem_cons.mpr ⟨dp_cld_27, List.forall_mem_cons.mpr ⟨dp_cld_28, List.forall_mem_cons.mpr ⟨dp_cld_29, List.forall_mem_cons.mpr ⟨dp_cld_30, List.forall_mem_cons.mpr ⟨dp_cld_31, List.forall_mem_cons.mpr ⟨dp_cld_32, List.forall_mem_cons.mpr ⟨dp_cld_33, List.forall_mem_cons.mpr ⟨dp_cld_34, List.forall_mem_cons.mpr ⟨dp_cld_35, List.forall_mem_cons.mpr ⟨dp_cld_36, List.forall_mem_cons.mpr ⟨dp_cld_37, List.forall_mem_cons.mpr ⟨dp_cld_38, List.forall_mem_cons.mpr ⟨dp_cld_39, List.forall_mem_cons.mpr ⟨dp_cld_40, List.forall_mem_cons.mpr ⟨dp_cld_41, List.forall_mem_cons.mpr ⟨dp_cld_42, List.forall_mem_cons.mpr ⟨dp_cld_43, List.forall_mem_cons.mpr ⟨dp_cld_44, List.forall_mem_cons.mpr ⟨dp_cld_45, List.forall_mem_cons.mpr ⟨dp_cld_46, List.forall_mem_cons.mpr ⟨dp_cld_47, List.forall_mem_cons.mpr ⟨dp_cld_48, List.forall_mem_cons.mpr ⟨dp_cld_49, List.forall_mem_cons.mpr ⟨dp_cld_50, List.forall_mem_cons.mpr ⟨dp_cld_51, List.forall_mem_cons.mpr ⟨dp_cld_52, List.forall_mem_cons.mpr ⟨dp_cld_53, List.forall_mem_cons.mpr ⟨dp_cld_54, List.forall_mem_cons.mpr ⟨dp_cld_55, List.forall_mem_cons.mpr ⟨dp_cld_56, List.forall_mem_cons.mpr ⟨dp_cld_57, List.forall_mem_cons.mpr ⟨dp_cld_58, List.forall_mem_cons.mpr ⟨dp_cld_59, List.forall_mem_cons.mpr ⟨dp_cld_60, List.forall_mem_cons.mpr ⟨dp_cld_61, List.forall_mem_cons.mpr ⟨dp_cld_62, List.forall_mem_cons.mpr ⟨dp_cld_63, List.forall_mem_cons.mpr ⟨dp_cld_64, List.forall_mem_cons.mpr ⟨dp_cld_65, List.forall_mem_cons.mpr ⟨dp_cld_66, List.forall_mem_cons.mpr ⟨dp_cld_67, List.forall_mem_cons.mpr ⟨dp_cld_68, List.forall_mem_cons.mpr ⟨dp_cld_69, List.forall_mem_cons.mpr ⟨dp_cld_70, List.forall_mem_cons.mpr ⟨dp_cld_71, List.forall_mem_cons.mpr ⟨dp_cld_72, List.forall_mem_cons.mpr ⟨dp_cld_73, List.forall_mem_cons.mpr ⟨dp_cld_74, List.forall_mem_cons.mpr ⟨dp_cld_75, List.forall_mem_cons.mpr ⟨dp_cld_76, List.forall_mem_cons.mpr ⟨dp_cld_77, List.forall_mem_cons.mpr ⟨dp_cld_78, List.forall_mem_cons.mpr ⟨dp_cld_79, List.forall_mem_cons.mpr ⟨dp_cld_80, List.forall_mem_cons.mpr ⟨dp_cld_81, List.forall_mem_cons.mpr ⟨dp_cld_82, List.forall_mem_cons.mpr ⟨dp_cld_83, List.forall_mem_cons.mpr ⟨dp_cld_84, List.forall_mem_cons.mpr ⟨dp_cld_85, List.forall_mem_cons.mpr ⟨dp_cld_86, List.forall_mem_cons.mpr ⟨dp_cld_87, List.forall_mem_cons.mpr ⟨dp_cld_88, List.forall_mem_cons.mpr ⟨dp_cld_89, List.forall_mem_cons.mpr ⟨dp_cld_90, List.forall_mem_cons.mpr ⟨dp_cld_91, List.forall_mem_cons.mpr ⟨dp_cld_92, List.forall_mem_cons.mpr ⟨dp_cld_93, List.forall_mem_cons.mpr ⟨dp_cld_94, List.forall_mem_cons.mpr ⟨dp_cld_95, (fun _ h => absurd h List.not_mem_nil)⟩⟩⟩⟩⟩⟩⟩⟩⟩⟩⟩⟩⟩⟩⟩⟩⟩⟩⟩⟩⟩⟩⟩⟩⟩⟩⟩⟩⟩⟩⟩⟩⟩⟩⟩⟩⟩⟩⟩⟩⟩⟩⟩⟩⟩⟩⟩⟩⟩⟩⟩⟩⟩⟩⟩⟩⟩⟩⟩⟩⟩⟩⟩⟩⟩⟩⟩⟩⟩⟩⟩⟩⟩⟩⟩⟩⟩⟩⟩⟩⟩⟩⟩⟩⟩⟩⟩⟩⟩⟩⟩⟩⟩⟩⟩⟩))

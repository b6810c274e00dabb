theorem dp_cm_X12_allIn : dp_cw dp_m_X12_allIn ∈ dp_T := dp_in_ok (q := 4031) rfl rfl
theorem dp_cm_X12_isIn : dp_cw dp_m_X12_isIn ∈ dp_T := dp_in_ok (q := 4113) rfl rfl
theorem dp_cm_X12_member : dp_cw dp_m_X12_member ∈ dp_T := dp_in_ok (q := 4019) rfl rfl
theorem dp_cm_X12_isMeasure : dp_cw dp_m_X12_isMeasure ∈ dp_T := dp_in_ok (q := 4059) rfl rfl
theorem dp_cm_X12_lastOf : dp_cw dp_m_X12_lastOf ∈ dp_T := dp_in_ok (q := 4051) rfl rfl
theorem dp_cm_X12_row : dp_cw dp_m_X12_row ∈ dp_T := dp_in_ok (q := 4035) rfl rfl
theorem dp_cm_X12_exclude : dp_cw dp_m_X12_exclude ∈ dp_T := dp_in_ok (q := 4055) rfl rfl
theorem dp_cm_X12_condition : dp_cw dp_m_X12_condition ∈ dp_T := dp_in_ok (q := 4066) rfl rfl
theorem dp_cm_X12_end : dp_cw dp_m_X12_end ∈ dp_T := dp_in_ok (q := 4070) rfl rfl
theorem dp_cm_X12_papers : dp_cw dp_m_X12_papers ∈ dp_T := dp_in_ok (q := 4074) rfl rfl
theorem dp_cm_X12_isUnder : dp_cw dp_m_X12_isUnder ∈ dp_T := dp_in_ok (q := 4109) rfl rfl
theorem dp_cm_X12_isOf : dp_cw dp_m_X12_isOf ∈ dp_T := dp_in_ok (q := 4106) rfl rfl
theorem dp_cm_X12_beats : dp_cw dp_m_X12_beats ∈ dp_T := dp_in_ok (q := 4117) rfl rfl
theorem dp_cm_X12_finds : dp_cw dp_m_X12_finds ∈ dp_T := dp_in_ok (q := 4102) rfl rfl
theorem dp_cm_X12_isSix : dp_cw dp_m_X12_isSix ∈ dp_T := dp_in_ok (q := 4098) rfl rfl
theorem dp_cm_X12_apply : dp_cw dp_m_X12_apply ∈ dp_T := dp_in_ok (q := 4079) rfl rfl
theorem dp_cm_X12_listed : dp_cw dp_m_X12_listed ∈ dp_T := dp_in_ok (q := 4121) rfl rfl
theorem dp_cm_X12_type : dp_cw dp_m_X12_type ∈ dp_T := dp_in_ok (q := 4125) rfl rfl
theorem dp_cm_X12_nextSign : dp_cw dp_m_X12_nextSign ∈ dp_T := dp_in_ok (q := 4152) rfl rfl
theorem dp_cm_X12_stops : dp_cw dp_m_X12_stops ∈ dp_T := dp_in_ok (q := 4144) rfl rfl
theorem dp_cm_X12_takes : dp_cw dp_m_X12_takes ∈ dp_T := dp_in_ok (q := 4183) rfl rfl
theorem dp_cm_X12_isDigit : dp_cw dp_m_X12_isDigit ∈ dp_T := dp_in_ok (q := 4194) rfl rfl
theorem dp_cm_X12_isSmall : dp_cw dp_m_X12_isSmall ∈ dp_T := dp_in_ok (q := 4155) rfl rfl
theorem dp_cm_X12_digitsFrom : dp_cw dp_m_X12_digitsFrom ∈ dp_T := dp_in_ok (q := 4191) rfl rfl
theorem dp_cm_X12_valueOf : dp_cw dp_m_X12_valueOf ∈ dp_T := dp_in_ok (q := 4198) rfl rfl
theorem dp_cm_X12_takesWhole : dp_cw dp_m_X12_takesWhole ∈ dp_T := dp_in_ok (q := 4187) rfl rfl
theorem dp_cm_X12_takesNumber : dp_cw dp_m_X12_takesNumber ∈ dp_T := dp_in_ok (q := 4210) rfl rfl
theorem dp_cm_X12_counts : dp_cw dp_m_X12_counts ∈ dp_T := dp_in_ok (q := 4171) rfl rfl
theorem dp_cm_X12_makes : dp_cw dp_m_X12_makes ∈ dp_T := dp_in_ok (q := 4175) rfl rfl
theorem dp_cm_X12_takesShare : dp_cw dp_m_X12_takesShare ∈ dp_T := dp_in_ok (q := 4206) rfl rfl
theorem dp_cm_X12_takesStep : dp_cw dp_m_X12_takesStep ∈ dp_T := dp_in_ok (q := 4202) rfl rfl
theorem dp_cm_X12_takesSteps : dp_cw dp_m_X12_takesSteps ∈ dp_T := dp_in_ok (q := 4179) rfl rfl
theorem dp_cg14 : ∀ mi ∈ dp_g14, dp_cw mi ∈ dp_T := List.forall_mem_cons.mpr ⟨dp_cm_X12_allIn, List.forall_mem_cons.mpr ⟨dp_cm_X12_isIn, List.forall_mem_cons.mpr ⟨dp_cm_X12_member, List.forall_mem_cons.mpr ⟨dp_cm_X12_isMeasure, List.forall_mem_cons.mpr ⟨dp_cm_X12_lastOf, List.forall_mem_cons.mpr ⟨dp_cm_X12_row, List.forall_mem_cons.mpr ⟨dp_cm_X12_exclude, List.forall_mem_cons.mpr ⟨dp_cm_X12_condition, List.forall_mem_cons.mpr ⟨dp_cm_X12_end, List.forall_mem_cons.mpr ⟨dp_cm_X12_papers, List.forall_mem_cons.mpr ⟨dp_cm_X12_isUnder, List.forall_mem_cons.mpr ⟨dp_cm_X12_isOf, List.forall_mem_cons.mpr ⟨dp_cm_X12_beats, List.forall_mem_cons.mpr ⟨dp_cm_X12_finds, List.forall_mem_cons.mpr ⟨dp_cm_X12_isSix, List.forall_mem_cons.mpr ⟨dp_cm_X12_apply, List.forall_mem_cons.mpr ⟨dp_cm_X12_listed, List.forall_mem_cons.mpr ⟨dp_cm_X12_type, List.forall_mem_cons.mpr ⟨dp_cm_X12_nextSign, List.forall_mem_cons.mpr ⟨dp_cm_X12_stops, List.forall_mem_cons.mpr ⟨dp_cm_X12_takes, List.forall_mem_cons.mpr ⟨dp_cm_X12_isDigit, List.forall_mem_cons.mpr ⟨dp_cm_X12_isSmall, List.forall_mem_cons.mpr ⟨dp_cm_X12_digitsFrom, List.forall_mem_cons.mpr ⟨dp_cm_X12_valueOf, List.forall_mem_cons.mpr ⟨dp_cm_X12_takesWhole, List.forall_mem_cons.mpr ⟨dp_cm_X12_takesNumber, List.forall_mem_cons.mpr ⟨dp_cm_X12_counts, List.forall_mem_cons.mpr ⟨dp_cm_X12_makes, List.forall_mem_cons.mpr ⟨dp_cm_X12_takesShare, List.forall_mem_cons.mpr ⟨dp_cm_X12_takesStep, List.forall_mem_cons.mpr ⟨dp_cm_X12_takesSteps, fun _ h => absurd h List.not_mem_nil⟩⟩⟩⟩⟩⟩⟩⟩⟩⟩⟩⟩⟩⟩⟩⟩⟩⟩⟩⟩⟩⟩⟩⟩⟩⟩⟩⟩⟩⟩⟩⟩
def dp_q14 : List (Nat × Nat × Nat × Nat) := [(4031, 270, 4030, 176), (4113, 270, 4112, 181), (4019, 270, 4017, 4018), (4059, 270, 4058, 178), (4051, 270, 4050, 177), (4035, 270, 4033, 4034), (4055, 270, 4053, 4054), (4066, 270, 4064, 4065), (4070, 270, 4068, 4069), (4074, 270, 4072, 4073), (4109, 270, 4108, 0), (4106, 270, 4105, 180), (4117, 270, 4116, 182), (4102, 270, 4101, 179), (4098, 270, 4097, 0), (4079, 270, 4077, 4078), (4121, 270, 4119, 4120), (4125, 270, 4123, 4124), (4152, 270, 4151, 187), (4144, 270, 4143, 185), (4183, 270, 4182, 193), (4194, 270, 4193, 0), (4155, 270, 4154, 0), (4191, 270, 4190, 195), (4198, 270, 4197, 196), (4187, 270, 4186, 194), (4210, 270, 4209, 199), (4171, 270, 4170, 190), (4175, 270, 4174, 191), (4206, 270, 4205, 198), (4202, 270, 4201, 197), (4179, 270, 4178, 192)]
set_option maxRecDepth 100000 in
theorem dp_kg14 : (dp_g14.zip dp_q14).all (fun q => dp_ckM q.1 q.2) = true := by decide +kernel
theorem dp_cm_X12_opens : dp_cw dp_m_X12_opens ∈ dp_T := dp_in_ok (q := 4140) rfl rfl
theorem dp_cm_X12_isWord : dp_cw dp_m_X12_isWord ∈ dp_T := dp_in_ok (q := 4164) rfl rfl
theorem dp_cm_X12_takesWord : dp_cw dp_m_X12_takesWord ∈ dp_T := dp_in_ok (q := 4159) rfl rfl
theorem dp_cm_X12_takesPart : dp_cw dp_m_X12_takesPart ∈ dp_T := dp_in_ok (q := 4148) rfl rfl
theorem dp_cm_X12_joins : dp_cw dp_m_X12_joins ∈ dp_T := dp_in_ok (q := 4214) rfl rfl
theorem dp_cm_X12_takesBehind : dp_cw dp_m_X12_takesBehind ∈ dp_T := dp_in_ok (q := 4218) rfl rfl
theorem dp_cm_X12_numbers : dp_cw dp_m_X12_numbers ∈ dp_T := dp_in_ok (q := 4222) rfl rfl
theorem dp_cm_X12_readsText : dp_cw dp_m_X12_readsText ∈ dp_T := dp_in_ok (q := 4136) rfl rfl
theorem dp_cm_X12_rate : dp_cw dp_m_X12_rate ∈ dp_T := dp_in_ok (q := 4132) rfl rfl
theorem dp_cm_X12_readsRate : dp_cw dp_m_X12_readsRate ∈ dp_T := dp_in_ok (q := 4230) rfl rfl
theorem dp_cm_X12_node : dp_cw dp_m_X12_node ∈ dp_T := dp_in_ok (q := 4226) rfl rfl
theorem dp_cm_X12_stepOf : dp_cw dp_m_X12_stepOf ∈ dp_T := dp_in_ok (q := 4246) rfl rfl
theorem dp_cm_X12_reckons : dp_cw dp_m_X12_reckons ∈ dp_T := dp_in_ok (q := 4242) rfl rfl
theorem dp_cm_X12_isAmount : dp_cw dp_m_X12_isAmount ∈ dp_T := dp_in_ok (q := 4238) rfl rfl
theorem dp_cm_X12_worth : dp_cw dp_m_X12_worth ∈ dp_T := dp_in_ok (q := 4234) rfl rfl
theorem dp_cm_X12_puts : dp_cw dp_m_X12_puts ∈ dp_T := dp_in_ok (q := 4256) rfl rfl
theorem dp_cm_X12_putsWhole : dp_cw dp_m_X12_putsWhole ∈ dp_T := dp_in_ok (q := 4272) rfl rfl
theorem dp_cm_X12_putsNumber : dp_cw dp_m_X12_putsNumber ∈ dp_T := dp_in_ok (q := 4268) rfl rfl
theorem dp_cm_X12_putsWord : dp_cw dp_m_X12_putsWord ∈ dp_T := dp_in_ok (q := 4264) rfl rfl
theorem dp_cm_X12_putsLeaf : dp_cw dp_m_X12_putsLeaf ∈ dp_T := dp_in_ok (q := 4260) rfl rfl
theorem dp_cm_X12_piles : dp_cw dp_m_X12_piles ∈ dp_T := dp_in_ok (q := 4285) rfl rfl
theorem dp_cm_X12_putsTwo : dp_cw dp_m_X12_putsTwo ∈ dp_T := dp_in_ok (q := 4279) rfl rfl
theorem dp_cm_X12_print : dp_cw dp_m_X12_print ∈ dp_T := dp_in_ok (q := 4252) rfl rfl
theorem dp_cm_X12_printed : dp_cw dp_m_X12_printed ∈ dp_T := dp_in_ok (q := 4289) rfl rfl
theorem dp_cm_X12_isSpanDay : dp_cw dp_m_X12_isSpanDay ∈ dp_T := dp_in_ok (q := 4297) rfl rfl
theorem dp_cm_X12_isOrder : dp_cw dp_m_X12_isOrder ∈ dp_T := dp_in_ok (q := 4306) rfl rfl
theorem dp_cm_X12_dayOfAsk : dp_cw dp_m_X12_dayOfAsk ∈ dp_T := dp_in_ok (q := 4318) rfl rfl
theorem dp_cm_X12_treats : dp_cw dp_m_X12_treats ∈ dp_T := dp_in_ok (q := 4314) rfl rfl
theorem dp_cm_X12_course : dp_cw dp_m_X12_course ∈ dp_T := dp_in_ok (q := 4310) rfl rfl
theorem dp_cm_X12_order : dp_cw dp_m_X12_order ∈ dp_T := dp_in_ok (q := 4293) rfl rfl
theorem dp_cm_X12_run : dp_cw dp_m_X12_run ∈ dp_T := dp_in_ok (q := 4302) rfl rfl
theorem dp_cm_X12_block : dp_cw dp_m_X12_block ∈ dp_T := dp_in_ok (q := 4322) rfl rfl
theorem dp_cg15 : ∀ mi ∈ dp_g15, dp_cw mi ∈ dp_T := List.forall_mem_cons.mpr ⟨dp_cm_X12_opens, List.forall_mem_cons.mpr ⟨dp_cm_X12_isWord, List.forall_mem_cons.mpr ⟨dp_cm_X12_takesWord, List.forall_mem_cons.mpr ⟨dp_cm_X12_takesPart, List.forall_mem_cons.mpr ⟨dp_cm_X12_joins, List.forall_mem_cons.mpr ⟨dp_cm_X12_takesBehind, List.forall_mem_cons.mpr ⟨dp_cm_X12_numbers, List.forall_mem_cons.mpr ⟨dp_cm_X12_readsText, List.forall_mem_cons.mpr ⟨dp_cm_X12_rate, List.forall_mem_cons.mpr ⟨dp_cm_X12_readsRate, List.forall_mem_cons.mpr ⟨dp_cm_X12_node, List.forall_mem_cons.mpr ⟨dp_cm_X12_stepOf, List.forall_mem_cons.mpr ⟨dp_cm_X12_reckons, List.forall_mem_cons.mpr ⟨dp_cm_X12_isAmount, List.forall_mem_cons.mpr ⟨dp_cm_X12_worth, List.forall_mem_cons.mpr ⟨dp_cm_X12_puts, List.forall_mem_cons.mpr ⟨dp_cm_X12_putsWhole, List.forall_mem_cons.mpr ⟨dp_cm_X12_putsNumber, List.forall_mem_cons.mpr ⟨dp_cm_X12_putsWord, List.forall_mem_cons.mpr ⟨dp_cm_X12_putsLeaf, List.forall_mem_cons.mpr ⟨dp_cm_X12_piles, List.forall_mem_cons.mpr ⟨dp_cm_X12_putsTwo, List.forall_mem_cons.mpr ⟨dp_cm_X12_print, List.forall_mem_cons.mpr ⟨dp_cm_X12_printed, List.forall_mem_cons.mpr ⟨dp_cm_X12_isSpanDay, List.forall_mem_cons.mpr ⟨dp_cm_X12_isOrder, List.forall_mem_cons.mpr ⟨dp_cm_X12_dayOfAsk, List.forall_mem_cons.mpr ⟨dp_cm_X12_treats, List.forall_mem_cons.mpr ⟨dp_cm_X12_course, List.forall_mem_cons.mpr ⟨dp_cm_X12_order, List.forall_mem_cons.mpr ⟨dp_cm_X12_run, List.forall_mem_cons.mpr ⟨dp_cm_X12_block, fun _ h => absurd h List.not_mem_nil⟩⟩⟩⟩⟩⟩⟩⟩⟩⟩⟩⟩⟩⟩⟩⟩⟩⟩⟩⟩⟩⟩⟩⟩⟩⟩⟩⟩⟩⟩⟩⟩
def dp_q15 : List (Nat × Nat × Nat × Nat) := [(4140, 270, 4139, 184), (4164, 270, 4163, 189), (4159, 270, 4158, 188), (4148, 270, 4147, 186), (4214, 270, 4213, 200), (4218, 270, 4217, 201), (4222, 270, 4221, 202), (4136, 270, 4135, 183), (4132, 270, 4130, 4131), (4230, 270, 4229, 203), (4226, 270, 4224, 4225), (4246, 270, 4245, 205), (4242, 270, 4241, 204), (4238, 270, 4237, 0), (4234, 270, 4232, 4233), (4256, 270, 4255, 206), (4272, 270, 4271, 210), (4268, 270, 4267, 209), (4264, 270, 4263, 208), (4260, 270, 4259, 207), (4285, 270, 4284, 212), (4279, 270, 4278, 211), (4252, 270, 4250, 4251), (4289, 270, 4287, 4288), (4297, 270, 4296, 0), (4306, 270, 4305, 213), (4318, 270, 4317, 216), (4314, 270, 4313, 215), (4310, 270, 4309, 214), (4293, 270, 4291, 4292), (4302, 270, 4300, 4301), (4322, 270, 4320, 4321)]
set_option maxRecDepth 100000 in
theorem dp_kg15 : (dp_g15.zip dp_q15).all (fun q => dp_ckM q.1 q.2) = true := by decide +kernel
theorem dp_cm_X12_transfer : dp_cw dp_m_X12_transfer ∈ dp_T := dp_in_ok (q := 4326) rfl rfl
theorem dp_cm_X12_balance : dp_cw dp_m_X12_balance ∈ dp_T := dp_in_ok (q := 4330) rfl rfl
theorem dp_cm_X12_quota : dp_cw dp_m_X12_quota ∈ dp_T := dp_in_ok (q := 4334) rfl rfl
theorem dp_cm_X12_isGuarantee : dp_cw dp_m_X12_isGuarantee ∈ dp_T := dp_in_ok (q := 4369) rfl rfl
theorem dp_cm_X12_isHolder : dp_cw dp_m_X12_isHolder ∈ dp_T := dp_in_ok (q := 4357) rfl rfl
theorem dp_cm_X12_guarantee : dp_cw dp_m_X12_guarantee ∈ dp_T := dp_in_ok (q := 4354) rfl rfl
theorem dp_cm_X12_list : dp_cw dp_m_X12_list ∈ dp_T := dp_in_ok (q := 4361) rfl rfl
theorem dp_cm_X12_first : dp_cw dp_m_X12_first ∈ dp_T := dp_in_ok (q := 4365) rfl rfl
theorem dp_cm_X12_neededFor : dp_cw dp_m_X12_neededFor ∈ dp_T := dp_in_ok (q := 4397) rfl rfl
theorem dp_cm_X12_neededOf : dp_cw dp_m_X12_neededOf ∈ dp_T := dp_in_ok (q := 4393) rfl rfl
theorem dp_cm_X12_usesOf : dp_cw dp_m_X12_usesOf ∈ dp_T := dp_in_ok (q := 4385) rfl rfl
theorem dp_cm_X12_freeOf : dp_cw dp_m_X12_freeOf ∈ dp_T := dp_in_ok (q := 4389) rfl rfl
theorem dp_cm_X12_mayCover : dp_cw dp_m_X12_mayCover ∈ dp_T := dp_in_ok (q := 4381) rfl rfl
theorem dp_cm_X12_togetherOf : dp_cw dp_m_X12_togetherOf ∈ dp_T := dp_in_ok (q := 4377) rfl rfl
theorem dp_cm_X12_free : dp_cw dp_m_X12_free ∈ dp_T := dp_in_ok (q := 4373) rfl rfl
theorem dp_cm_X12_lays : dp_cw dp_m_X12_lays ∈ dp_T := dp_in_ok (q := 4587) rfl rfl
theorem dp_cm_X12_setsParts : dp_cw dp_m_X12_setsParts ∈ dp_T := dp_in_ok (q := 4591) rfl rfl
theorem dp_cm_X12_reservesAt : dp_cw dp_m_X12_reservesAt ∈ dp_T := dp_in_ok (q := 4583) rfl rfl
theorem dp_cm_X12_endsAs : dp_cw dp_m_X12_endsAs ∈ dp_T := dp_in_ok (q := 4624) rfl rfl
theorem dp_cm_X12_earnedNow : dp_cw dp_m_X12_earnedNow ∈ dp_T := dp_in_ok (q := 4418) rfl rfl
theorem dp_cm_X12_wouldTake : dp_cw dp_m_X12_wouldTake ∈ dp_T := dp_in_ok (q := 4632) rfl rfl
theorem dp_cm_X12_claimsAll : dp_cw dp_m_X12_claimsAll ∈ dp_T := dp_in_ok (q := 4636) rfl rfl
theorem dp_cm_X12_shut : dp_cw dp_m_X12_shut ∈ dp_T := dp_in_ok (q := 4402) rfl rfl
theorem dp_cm_X12_fails : dp_cw dp_m_X12_fails ∈ dp_T := dp_in_ok (q := 4406) rfl rfl
theorem dp_cm_X12_tick : dp_cw dp_m_X12_tick ∈ dp_T := dp_in_ok (q := 4410) rfl rfl
theorem dp_cm_X12_interest : dp_cw dp_m_X12_interest ∈ dp_T := dp_in_ok (q := 4414) rfl rfl
theorem dp_cm_X12_security : dp_cw dp_m_X12_security ∈ dp_T := dp_in_ok (q := 4423) rfl rfl
theorem dp_cm_X12_reservation : dp_cw dp_m_X12_reservation ∈ dp_T := dp_in_ok (q := 4427) rfl rfl
theorem dp_cm_X12_isLedgerDay : dp_cw dp_m_X12_isLedgerDay ∈ dp_T := dp_in_ok (q := 4435) rfl rfl
theorem dp_cm_X12_isAccount : dp_cw dp_m_X12_isAccount ∈ dp_T := dp_in_ok (q := 4450) rfl rfl
theorem dp_cm_X12_kindOfAccount : dp_cw dp_m_X12_kindOfAccount ∈ dp_T := dp_in_ok (q := 4519) rfl rfl
theorem dp_cm_X12_isOpenBatch : dp_cw dp_m_X12_isOpenBatch ∈ dp_T := dp_in_ok (q := 4447) rfl rfl
theorem dp_cg16 : ∀ mi ∈ dp_g16, dp_cw mi ∈ dp_T := List.forall_mem_cons.mpr ⟨dp_cm_X12_transfer, List.forall_mem_cons.mpr ⟨dp_cm_X12_balance, List.forall_mem_cons.mpr ⟨dp_cm_X12_quota, List.forall_mem_cons.mpr ⟨dp_cm_X12_isGuarantee, List.forall_mem_cons.mpr ⟨dp_cm_X12_isHolder, List.forall_mem_cons.mpr ⟨dp_cm_X12_guarantee, List.forall_mem_cons.mpr ⟨dp_cm_X12_list, List.forall_mem_cons.mpr ⟨dp_cm_X12_first, List.forall_mem_cons.mpr ⟨dp_cm_X12_neededFor, List.forall_mem_cons.mpr ⟨dp_cm_X12_neededOf, List.forall_mem_cons.mpr ⟨dp_cm_X12_usesOf, List.forall_mem_cons.mpr ⟨dp_cm_X12_freeOf, List.forall_mem_cons.mpr ⟨dp_cm_X12_mayCover, List.forall_mem_cons.mpr ⟨dp_cm_X12_togetherOf, List.forall_mem_cons.mpr ⟨dp_cm_X12_free, List.forall_mem_cons.mpr ⟨dp_cm_X12_lays, List.forall_mem_cons.mpr ⟨dp_cm_X12_setsParts, List.forall_mem_cons.mpr ⟨dp_cm_X12_reservesAt, List.forall_mem_cons.mpr ⟨dp_cm_X12_endsAs, List.forall_mem_cons.mpr ⟨dp_cm_X12_earnedNow, List.forall_mem_cons.mpr ⟨dp_cm_X12_wouldTake, List.forall_mem_cons.mpr ⟨dp_cm_X12_claimsAll, List.forall_mem_cons.mpr ⟨dp_cm_X12_shut, List.forall_mem_cons.mpr ⟨dp_cm_X12_fails, List.forall_mem_cons.mpr ⟨dp_cm_X12_tick, List.forall_mem_cons.mpr ⟨dp_cm_X12_interest, List.forall_mem_cons.mpr ⟨dp_cm_X12_security, List.forall_mem_cons.mpr ⟨dp_cm_X12_reservation, List.forall_mem_cons.mpr ⟨dp_cm_X12_isLedgerDay, List.forall_mem_cons.mpr ⟨dp_cm_X12_isAccount, List.forall_mem_cons.mpr ⟨dp_cm_X12_kindOfAccount, List.forall_mem_cons.mpr ⟨dp_cm_X12_isOpenBatch, fun _ h => absurd h List.not_mem_nil⟩⟩⟩⟩⟩⟩⟩⟩⟩⟩⟩⟩⟩⟩⟩⟩⟩⟩⟩⟩⟩⟩⟩⟩⟩⟩⟩⟩⟩⟩⟩⟩
def dp_q16 : List (Nat × Nat × Nat × Nat) := [(4326, 270, 4324, 4325), (4330, 270, 4328, 4329), (4334, 270, 4332, 4333), (4369, 270, 4368, 217), (4357, 270, 4356, 0), (4354, 270, 4352, 4353), (4361, 270, 4359, 4360), (4365, 270, 4363, 4364), (4397, 270, 4396, 223), (4393, 270, 4392, 222), (4385, 270, 4384, 220), (4389, 270, 4388, 221), (4381, 270, 4380, 219), (4377, 270, 4376, 218), (4373, 270, 4371, 4372), (4587, 270, 4586, 239), (4591, 270, 4590, 240), (4583, 270, 4582, 238), (4624, 270, 4623, 243), (4418, 270, 4417, 224), (4632, 270, 4631, 244), (4636, 270, 4635, 245), (4402, 270, 4400, 4401), (4406, 270, 4404, 4405), (4410, 270, 4408, 4409), (4414, 270, 4412, 4413), (4423, 270, 4421, 4422), (4427, 270, 4425, 4426), (4435, 270, 4434, 0), (4450, 270, 4449, 0), (4519, 270, 4518, 0), (4447, 270, 4446, 226)]
set_option maxRecDepth 100000 in
theorem dp_kg16 : (dp_g16.zip dp_q16).all (fun q => dp_ckM q.1 q.2) = true := by decide +kernel
theorem dp_cm_X12_beginsBatch : dp_cw dp_m_X12_beginsBatch ∈ dp_T := dp_in_ok (q := 4439) rfl rfl
theorem dp_cm_X12_enters : dp_cw dp_m_X12_enters ∈ dp_T := dp_in_ok (q := 4455) rfl rfl
theorem dp_cm_X12_batch : dp_cw dp_m_X12_batch ∈ dp_T := dp_in_ok (q := 4432) rfl rfl
theorem dp_cm_X12_entry : dp_cw dp_m_X12_entry ∈ dp_T := dp_in_ok (q := 4443) rfl rfl
theorem dp_cm_X12_failing : dp_cw dp_m_X12_failing ∈ dp_T := dp_in_ok (q := 4459) rfl rfl
theorem dp_cm_X12_sumIn : dp_cw dp_m_X12_sumIn ∈ dp_T := dp_in_ok (q := 4471) rfl rfl
theorem dp_cm_X12_wrongWith : dp_cw dp_m_X12_wrongWith ∈ dp_T := dp_in_ok (q := 4467) rfl rfl
theorem dp_cm_X12_posts : dp_cw dp_m_X12_posts ∈ dp_T := dp_in_ok (q := 4479) rfl rfl
theorem dp_cm_X12_greatestIn : dp_cw dp_m_X12_greatestIn ∈ dp_T := dp_in_ok (q := 4475) rfl rfl
theorem dp_cm_X12_post : dp_cw dp_m_X12_post ∈ dp_T := dp_in_ok (q := 4463) rfl rfl
theorem dp_cm_X12_reverse : dp_cw dp_m_X12_reverse ∈ dp_T := dp_in_ok (q := 4483) rfl rfl
theorem dp_cm_X12_close : dp_cw dp_m_X12_close ∈ dp_T := dp_in_ok (q := 4487) rfl rfl
theorem dp_cm_X12_sumOf : dp_cw dp_m_X12_sumOf ∈ dp_T := dp_in_ok (q := 4495) rfl rfl
theorem dp_cm_X12_account : dp_cw dp_m_X12_account ∈ dp_T := dp_in_ok (q := 4491) rfl rfl
theorem dp_cm_X12_statement : dp_cw dp_m_X12_statement ∈ dp_T := dp_in_ok (q := 4499) rfl rfl
theorem dp_cm_X12_isKind : dp_cw dp_m_X12_isKind ∈ dp_T := dp_in_ok (q := 4507) rfl rfl
theorem dp_cm_X12_share : dp_cw dp_m_X12_share ∈ dp_T := dp_in_ok (q := 4504) rfl rfl
theorem dp_cm_X12_cost : dp_cw dp_m_X12_cost ∈ dp_T := dp_in_ok (q := 4511) rfl rfl
theorem dp_cm_X12_shareOf : dp_cw dp_m_X12_shareOf ∈ dp_T := dp_in_ok (q := 4524) rfl rfl
theorem dp_cm_X12_passed : dp_cw dp_m_X12_passed ∈ dp_T := dp_in_ok (q := 4515) rfl rfl
theorem dp_cm_X12_read : dp_cw dp_m_X12_read ∈ dp_T := dp_in_ok (q := 4528) rfl rfl
theorem dp_cm_X12_batchOf : dp_cw dp_m_X12_batchOf ∈ dp_T := dp_in_ok (q := 4532) rfl rfl
theorem dp_cm_X12_isDeclaration : dp_cw dp_m_X12_isDeclaration ∈ dp_T := dp_in_ok (q := 4548) rfl rfl
theorem dp_cm_X12_isState : dp_cw dp_m_X12_isState ∈ dp_T := dp_in_ok (q := 4544) rfl rfl
theorem dp_cm_X12_declare : dp_cw dp_m_X12_declare ∈ dp_T := dp_in_ok (q := 4536) rfl rfl
theorem dp_cm_X12_amount : dp_cw dp_m_X12_amount ∈ dp_T := dp_in_ok (q := 4540) rfl rfl
theorem dp_cm_X12_askFor : dp_cw dp_m_X12_askFor ∈ dp_T := dp_in_ok (q := 4559) rfl rfl
theorem dp_cm_X12_isAsked : dp_cw dp_m_X12_isAsked ∈ dp_T := dp_in_ok (q := 4555) rfl rfl
theorem dp_cm_X12_ask : dp_cw dp_m_X12_ask ∈ dp_T := dp_in_ok (q := 4552) rfl rfl
theorem dp_cm_X12_again : dp_cw dp_m_X12_again ∈ dp_T := dp_in_ok (q := 4563) rfl rfl
theorem dp_cm_X12_partOfSum : dp_cw dp_m_X12_partOfSum ∈ dp_T := dp_in_ok (q := 4574) rfl rfl
theorem dp_cm_X12_reckonsDuty : dp_cw dp_m_X12_reckonsDuty ∈ dp_T := dp_in_ok (q := 4571) rfl rfl
theorem dp_cg17 : ∀ mi ∈ dp_g17, dp_cw mi ∈ dp_T := List.forall_mem_cons.mpr ⟨dp_cm_X12_beginsBatch, List.forall_mem_cons.mpr ⟨dp_cm_X12_enters, List.forall_mem_cons.mpr ⟨dp_cm_X12_batch, List.forall_mem_cons.mpr ⟨dp_cm_X12_entry, List.forall_mem_cons.mpr ⟨dp_cm_X12_failing, List.forall_mem_cons.mpr ⟨dp_cm_X12_sumIn, List.forall_mem_cons.mpr ⟨dp_cm_X12_wrongWith, List.forall_mem_cons.mpr ⟨dp_cm_X12_posts, List.forall_mem_cons.mpr ⟨dp_cm_X12_greatestIn, List.forall_mem_cons.mpr ⟨dp_cm_X12_post, List.forall_mem_cons.mpr ⟨dp_cm_X12_reverse, List.forall_mem_cons.mpr ⟨dp_cm_X12_close, List.forall_mem_cons.mpr ⟨dp_cm_X12_sumOf, List.forall_mem_cons.mpr ⟨dp_cm_X12_account, List.forall_mem_cons.mpr ⟨dp_cm_X12_statement, List.forall_mem_cons.mpr ⟨dp_cm_X12_isKind, List.forall_mem_cons.mpr ⟨dp_cm_X12_share, List.forall_mem_cons.mpr ⟨dp_cm_X12_cost, List.forall_mem_cons.mpr ⟨dp_cm_X12_shareOf, List.forall_mem_cons.mpr ⟨dp_cm_X12_passed, List.forall_mem_cons.mpr ⟨dp_cm_X12_read, List.forall_mem_cons.mpr ⟨dp_cm_X12_batchOf, List.forall_mem_cons.mpr ⟨dp_cm_X12_isDeclaration, List.forall_mem_cons.mpr ⟨dp_cm_X12_isState, List.forall_mem_cons.mpr ⟨dp_cm_X12_declare, List.forall_mem_cons.mpr ⟨dp_cm_X12_amount, List.forall_mem_cons.mpr ⟨dp_cm_X12_askFor, List.forall_mem_cons.mpr ⟨dp_cm_X12_isAsked, List.forall_mem_cons.mpr ⟨dp_cm_X12_ask, List.forall_mem_cons.mpr ⟨dp_cm_X12_again, List.forall_mem_cons.mpr ⟨dp_cm_X12_partOfSum, List.forall_mem_cons.mpr ⟨dp_cm_X12_reckonsDuty, fun _ h => absurd h List.not_mem_nil⟩⟩⟩⟩⟩⟩⟩⟩⟩⟩⟩⟩⟩⟩⟩⟩⟩⟩⟩⟩⟩⟩⟩⟩⟩⟩⟩⟩⟩⟩⟩⟩
def dp_q17 : List (Nat × Nat × Nat × Nat) := [(4439, 270, 4438, 225), (4455, 270, 4454, 227), (4432, 270, 4430, 4431), (4443, 270, 4441, 4442), (4459, 270, 4457, 4458), (4471, 270, 4470, 229), (4467, 270, 4466, 228), (4479, 270, 4478, 231), (4475, 270, 4474, 230), (4463, 270, 4461, 4462), (4483, 270, 4481, 4482), (4487, 270, 4485, 4486), (4495, 270, 4494, 232), (4491, 270, 4489, 4490), (4499, 270, 4497, 4498), (4507, 270, 4506, 0), (4504, 270, 4502, 4503), (4511, 270, 4509, 4510), (4524, 270, 4523, 233), (4515, 270, 4513, 4514), (4528, 270, 4526, 4527), (4532, 270, 4530, 4531), (4548, 270, 4547, 235), (4544, 270, 4543, 234), (4536, 270, 4534, 4535), (4540, 270, 4538, 4539), (4559, 270, 4558, 236), (4555, 270, 4554, 0), (4552, 270, 4550, 4551), (4563, 270, 4561, 4562), (4574, 270, 4573, 0), (4571, 270, 4570, 237)]
set_option maxRecDepth 100000 in
theorem dp_kg17 : (dp_g17.zip dp_q17).all (fun q => dp_ckM q.1 q.2) = true := by decide +kernel
theorem dp_cm_X12_duty : dp_cw dp_m_X12_duty ∈ dp_T := dp_in_ok (q := 4567) rfl rfl
theorem dp_cm_X12_assess : dp_cw dp_m_X12_assess ∈ dp_T := dp_in_ok (q := 4579) rfl rfl
theorem dp_cm_X12_beginsFor : dp_cw dp_m_X12_beginsFor ∈ dp_T := dp_in_ok (q := 4616) rfl rfl
theorem dp_cm_X12_postsFor : dp_cw dp_m_X12_postsFor ∈ dp_T := dp_in_ok (q := 4620) rfl rfl
theorem dp_cm_X12_pay : dp_cw dp_m_X12_pay ∈ dp_T := dp_in_ok (q := 4612) rfl rfl
theorem dp_cm_X12_claim : dp_cw dp_m_X12_claim ∈ dp_T := dp_in_ok (q := 4628) rfl rfl
theorem dp_cm_X12_correct : dp_cw dp_m_X12_correct ∈ dp_T := dp_in_ok (q := 4640) rfl rfl
theorem dp_cm_X12_cancel : dp_cw dp_m_X12_cancel ∈ dp_T := dp_in_ok (q := 4644) rfl rfl
theorem dp_cm_X12_declared : dp_cw dp_m_X12_declared ∈ dp_T := dp_in_ok (q := 4648) rfl rfl
theorem dp_cm_X12_manyBoxes : dp_cw dp_m_X12_manyBoxes ∈ dp_T := dp_in_ok (q := 4661) rfl rfl
theorem dp_cm_X12_liveOnes : dp_cw dp_m_X12_liveOnes ∈ dp_T := dp_in_ok (q := 4669) rfl rfl
theorem dp_cm_X12_ofState : dp_cw dp_m_X12_ofState ∈ dp_T := dp_in_ok (q := 4673) rfl rfl
theorem dp_cm_X12_countOfPlace : dp_cw dp_m_X12_countOfPlace ∈ dp_T := dp_in_ok (q := 4657) rfl rfl
theorem dp_cm_X12_countOfBooks : dp_cw dp_m_X12_countOfBooks ∈ dp_T := dp_in_ok (q := 4665) rfl rfl
theorem dp_cm_X12_count : dp_cw dp_m_X12_count ∈ dp_T := dp_in_ok (q := 4653) rfl rfl
theorem dp_cm_J6_bitCount_0f7a4 : dp_cw dp_m_J6_bitCount_0f7a4 ∈ dp_T := dp_in_ok (q := 1159) rfl rfl
theorem dp_cm_J7_fill_d0a16 : dp_cw dp_m_J7_fill_d0a16 ∈ dp_T := dp_in_ok (q := 2746) rfl rfl
theorem dp_cm_J7_fill_53178 : dp_cw dp_m_J7_fill_53178 ∈ dp_T := dp_in_ok (q := 369) rfl rfl
theorem dp_cm_L_cell : dp_cw dp_m_L_cell ∈ dp_T := dp_in_ok (q := 1465) rfl rfl
theorem dp_cm_L_box : dp_cw dp_m_L_box ∈ dp_T := dp_in_ok (q := 1468) rfl rfl
theorem dp_cm_L_plan : dp_cw dp_m_L_plan ∈ dp_T := dp_in_ok (q := 1593) rfl rfl
theorem dp_cm_L_move : dp_cw dp_m_L_move ∈ dp_T := dp_in_ok (q := 1654) rfl rfl
theorem dp_cm_L_work : dp_cw dp_m_L_work ∈ dp_T := dp_in_ok (q := 1682) rfl rfl
theorem dp_cm_L_least : dp_cw dp_m_L_least ∈ dp_T := dp_in_ok (q := 1722) rfl rfl
theorem dp_cm_L_swap : dp_cw dp_m_L_swap ∈ dp_T := dp_in_ok (q := 1737) rfl rfl
theorem dp_cm_L_aboard : dp_cw dp_m_L_aboard ∈ dp_T := dp_in_ok (q := 1759) rfl rfl
theorem dp_cm_L_put : dp_cw dp_m_L_put ∈ dp_T := dp_in_ok (q := 1766) rfl rfl
theorem dp_cm_L_take : dp_cw dp_m_L_take ∈ dp_T := dp_in_ok (q := 1795) rfl rfl
theorem dp_cm_L_shift : dp_cw dp_m_L_shift ∈ dp_T := dp_in_ok (q := 1806) rfl rfl
theorem dp_cm_L_choose : dp_cw dp_m_L_choose ∈ dp_T := dp_in_ok (q := 1817) rfl rfl
theorem dp_cm_L_night : dp_cw dp_m_L_night ∈ dp_T := dp_in_ok (q := 1825) rfl rfl
theorem dp_cm_L_where : dp_cw dp_m_L_where ∈ dp_T := dp_in_ok (q := 1848) rfl rfl
theorem dp_cg18 : ∀ mi ∈ dp_g18, dp_cw mi ∈ dp_T := List.forall_mem_cons.mpr ⟨dp_cm_X12_duty, List.forall_mem_cons.mpr ⟨dp_cm_X12_assess, List.forall_mem_cons.mpr ⟨dp_cm_X12_beginsFor, List.forall_mem_cons.mpr ⟨dp_cm_X12_postsFor, List.forall_mem_cons.mpr ⟨dp_cm_X12_pay, List.forall_mem_cons.mpr ⟨dp_cm_X12_claim, List.forall_mem_cons.mpr ⟨dp_cm_X12_correct, List.forall_mem_cons.mpr ⟨dp_cm_X12_cancel, List.forall_mem_cons.mpr ⟨dp_cm_X12_declared, List.forall_mem_cons.mpr ⟨dp_cm_X12_manyBoxes, List.forall_mem_cons.mpr ⟨dp_cm_X12_liveOnes, List.forall_mem_cons.mpr ⟨dp_cm_X12_ofState, List.forall_mem_cons.mpr ⟨dp_cm_X12_countOfPlace, List.forall_mem_cons.mpr ⟨dp_cm_X12_countOfBooks, List.forall_mem_cons.mpr ⟨dp_cm_X12_count, List.forall_mem_cons.mpr ⟨dp_cm_J6_bitCount_0f7a4, List.forall_mem_cons.mpr ⟨dp_cm_J7_fill_d0a16, List.forall_mem_cons.mpr ⟨dp_cm_J7_fill_53178, List.forall_mem_cons.mpr ⟨dp_cm_L_cell, List.forall_mem_cons.mpr ⟨dp_cm_L_box, List.forall_mem_cons.mpr ⟨dp_cm_L_plan, List.forall_mem_cons.mpr ⟨dp_cm_L_move, List.forall_mem_cons.mpr ⟨dp_cm_L_work, List.forall_mem_cons.mpr ⟨dp_cm_L_least, List.forall_mem_cons.mpr ⟨dp_cm_L_swap, List.forall_mem_cons.mpr ⟨dp_cm_L_aboard, List.forall_mem_cons.mpr ⟨dp_cm_L_put, List.forall_mem_cons.mpr ⟨dp_cm_L_take, List.forall_mem_cons.mpr ⟨dp_cm_L_shift, List.forall_mem_cons.mpr ⟨dp_cm_L_choose, List.forall_mem_cons.mpr ⟨dp_cm_L_night, List.forall_mem_cons.mpr ⟨dp_cm_L_where, fun _ h => absurd h List.not_mem_nil⟩⟩⟩⟩⟩⟩⟩⟩⟩⟩⟩⟩⟩⟩⟩⟩⟩⟩⟩⟩⟩⟩⟩⟩⟩⟩⟩⟩⟩⟩⟩⟩
def dp_q18 : List (Nat × Nat × Nat × Nat) := [(4567, 270, 4565, 4566), (4579, 270, 4577, 4578), (4616, 270, 4615, 241), (4620, 270, 4619, 242), (4612, 270, 4610, 4611), (4628, 270, 4626, 4627), (4640, 270, 4638, 4639), (4644, 270, 4642, 4643), (4648, 270, 4646, 4647), (4661, 270, 4660, 247), (4669, 270, 4668, 249), (4673, 270, 4672, 250), (4657, 270, 4656, 246), (4665, 270, 4664, 248), (4653, 270, 4651, 4652), (1159, 277, 1158, 0), (2746, 261, 2745, 0), (369, 261, 368, 0), (1465, 256, 1464, 0), (1468, 256, 1467, 0), (1593, 256, 1592, 0), (1654, 256, 1653, 0), (1682, 256, 1681, 0), (1722, 256, 1721, 0), (1737, 256, 1736, 0), (1759, 256, 1758, 0), (1766, 256, 1765, 0), (1795, 256, 1794, 0), (1806, 256, 1805, 0), (1817, 256, 1816, 0), (1825, 256, 1824, 0), (1848, 256, 1847, 0)]
set_option maxRecDepth 100000 in
theorem dp_kg18 : (dp_g18.zip dp_q18).all (fun q => dp_ckM q.1 q.2) = true := by decide +kernel
theorem dp_cm_L_at : dp_cw dp_m_L_at ∈ dp_T := dp_in_ok (q := 1860) rfl rfl
theorem dp_cm_L_goods : dp_cw dp_m_L_goods ∈ dp_T := dp_in_ok (q := 1869) rfl rfl
theorem dp_cm_L_bar : dp_cw dp_m_L_bar ∈ dp_T := dp_in_ok (q := 1890) rfl rfl
theorem dp_cm_L_lift : dp_cw dp_m_L_lift ∈ dp_T := dp_in_ok (q := 1913) rfl rfl
theorem dp_cm_L_join : dp_cw dp_m_L_join ∈ dp_T := dp_in_ok (q := 1925) rfl rfl
theorem dp_cm_L_release : dp_cw dp_m_L_release ∈ dp_T := dp_in_ok (q := 1938) rfl rfl
theorem dp_cm_L_bars : dp_cw dp_m_L_bars ∈ dp_T := dp_in_ok (q := 1965) rfl rfl
theorem dp_cm_L_part : dp_cw dp_m_L_part ∈ dp_T := dp_in_ok (q := 1988) rfl rfl
theorem dp_cm_L_withdraw : dp_cw dp_m_L_withdraw ∈ dp_T := dp_in_ok (q := 2001) rfl rfl
theorem dp_cm_L_gate : dp_cw dp_m_L_gate ∈ dp_T := dp_in_ok (q := 2012) rfl rfl
theorem dp_cm_L_look : dp_cw dp_m_L_look ∈ dp_T := dp_in_ok (q := 2023) rfl rfl
theorem dp_cm_L_row : dp_cw dp_m_L_row ∈ dp_T := dp_in_ok (q := 2051) rfl rfl
theorem dp_cm_L_end : dp_cw dp_m_L_end ∈ dp_T := dp_in_ok (q := 2094) rfl rfl
theorem dp_cm_L_apply : dp_cw dp_m_L_apply ∈ dp_T := dp_in_ok (q := 2104) rfl rfl
theorem dp_cm_L_rate : dp_cw dp_m_L_rate ∈ dp_T := dp_in_ok (q := 2147) rfl rfl
theorem dp_cm_L_node : dp_cw dp_m_L_node ∈ dp_T := dp_in_ok (q := 2372) rfl rfl
theorem dp_cm_L_print : dp_cw dp_m_L_print ∈ dp_T := dp_in_ok (q := 2388) rfl rfl
theorem dp_cm_L_printed : dp_cw dp_m_L_printed ∈ dp_T := dp_in_ok (q := 2447) rfl rfl
theorem dp_cm_L_worth : dp_cw dp_m_L_worth ∈ dp_T := dp_in_ok (q := 2455) rfl rfl
theorem dp_cm_L_order : dp_cw dp_m_L_order ∈ dp_T := dp_in_ok (q := 2507) rfl rfl
theorem dp_cm_L_run : dp_cw dp_m_L_run ∈ dp_T := dp_in_ok (q := 2521) rfl rfl
theorem dp_cm_L_block : dp_cw dp_m_L_block ∈ dp_T := dp_in_ok (q := 2575) rfl rfl
theorem dp_cm_L_transfer : dp_cw dp_m_L_transfer ∈ dp_T := dp_in_ok (q := 2590) rfl rfl
theorem dp_cm_L_balance : dp_cw dp_m_L_balance ∈ dp_T := dp_in_ok (q := 2606) rfl rfl
theorem dp_cm_L_quota : dp_cw dp_m_L_quota ∈ dp_T := dp_in_ok (q := 2618) rfl rfl
theorem dp_cm_L_guarantee : dp_cw dp_m_L_guarantee ∈ dp_T := dp_in_ok (q := 2639) rfl rfl
theorem dp_cm_L_interest : dp_cw dp_m_L_interest ∈ dp_T := dp_in_ok (q := 2654) rfl rfl
theorem dp_cm_L_security : dp_cw dp_m_L_security ∈ dp_T := dp_in_ok (q := 2671) rfl rfl
theorem dp_cm_L_reservation : dp_cw dp_m_L_reservation ∈ dp_T := dp_in_ok (q := 2682) rfl rfl
theorem dp_cm_L_batch : dp_cw dp_m_L_batch ∈ dp_T := dp_in_ok (q := 2702) rfl rfl
theorem dp_cm_L_post : dp_cw dp_m_L_post ∈ dp_T := dp_in_ok (q := 2714) rfl rfl
theorem dp_cm_L_reverse : dp_cw dp_m_L_reverse ∈ dp_T := dp_in_ok (q := 2762) rfl rfl
theorem dp_cg19 : ∀ mi ∈ dp_g19, dp_cw mi ∈ dp_T := List.forall_mem_cons.mpr ⟨dp_cm_L_at, List.forall_mem_cons.mpr ⟨dp_cm_L_goods, List.forall_mem_cons.mpr ⟨dp_cm_L_bar, List.forall_mem_cons.mpr ⟨dp_cm_L_lift, List.forall_mem_cons.mpr ⟨dp_cm_L_join, List.forall_mem_cons.mpr ⟨dp_cm_L_release, List.forall_mem_cons.mpr ⟨dp_cm_L_bars, List.forall_mem_cons.mpr ⟨dp_cm_L_part, List.forall_mem_cons.mpr ⟨dp_cm_L_withdraw, List.forall_mem_cons.mpr ⟨dp_cm_L_gate, List.forall_mem_cons.mpr ⟨dp_cm_L_look, List.forall_mem_cons.mpr ⟨dp_cm_L_row, List.forall_mem_cons.mpr ⟨dp_cm_L_end, List.forall_mem_cons.mpr ⟨dp_cm_L_apply, List.forall_mem_cons.mpr ⟨dp_cm_L_rate, List.forall_mem_cons.mpr ⟨dp_cm_L_node, List.forall_mem_cons.mpr ⟨dp_cm_L_print, List.forall_mem_cons.mpr ⟨dp_cm_L_printed, List.forall_mem_cons.mpr ⟨dp_cm_L_worth, List.forall_mem_cons.mpr ⟨dp_cm_L_order, List.forall_mem_cons.mpr ⟨dp_cm_L_run, List.forall_mem_cons.mpr ⟨dp_cm_L_block, List.forall_mem_cons.mpr ⟨dp_cm_L_transfer, List.forall_mem_cons.mpr ⟨dp_cm_L_balance, List.forall_mem_cons.mpr ⟨dp_cm_L_quota, List.forall_mem_cons.mpr ⟨dp_cm_L_guarantee, List.forall_mem_cons.mpr ⟨dp_cm_L_interest, List.forall_mem_cons.mpr ⟨dp_cm_L_security, List.forall_mem_cons.mpr ⟨dp_cm_L_reservation, List.forall_mem_cons.mpr ⟨dp_cm_L_batch, List.forall_mem_cons.mpr ⟨dp_cm_L_post, List.forall_mem_cons.mpr ⟨dp_cm_L_reverse, fun _ h => absurd h List.not_mem_nil⟩⟩⟩⟩⟩⟩⟩⟩⟩⟩⟩⟩⟩⟩⟩⟩⟩⟩⟩⟩⟩⟩⟩⟩⟩⟩⟩⟩⟩⟩⟩⟩
def dp_q19 : List (Nat × Nat × Nat × Nat) := [(1860, 256, 1859, 0), (1869, 256, 1868, 0), (1890, 256, 1889, 0), (1913, 256, 1912, 0), (1925, 256, 1924, 0), (1938, 256, 1937, 0), (1965, 256, 1964, 0), (1988, 256, 1987, 0), (2001, 256, 2000, 0), (2012, 256, 2011, 0), (2023, 256, 2022, 0), (2051, 256, 2050, 0), (2094, 256, 2093, 0), (2104, 256, 2103, 0), (2147, 256, 2146, 0), (2372, 256, 2371, 0), (2388, 256, 2387, 0), (2447, 256, 2446, 0), (2455, 256, 2454, 0), (2507, 256, 2506, 0), (2521, 256, 2520, 0), (2575, 256, 2574, 0), (2590, 256, 2589, 0), (2606, 256, 2605, 0), (2618, 256, 2617, 0), (2639, 256, 2638, 0), (2654, 256, 2653, 0), (2671, 256, 2670, 0), (2682, 256, 2681, 0), (2702, 256, 2701, 0), (2714, 256, 2713, 0), (2762, 256, 2761, 0)]
set_option maxRecDepth 100000 in
theorem dp_kg19 : (dp_g19.zip dp_q19).all (fun q => dp_ckM q.1 q.2) = true := by decide +kernel
theorem dp_cm_L_account : dp_cw dp_m_L_account ∈ dp_T := dp_in_ok (q := 2787) rfl rfl
theorem dp_cm_L_statement : dp_cw dp_m_L_statement ∈ dp_T := dp_in_ok (q := 2799) rfl rfl
theorem dp_cm_L_passed : dp_cw dp_m_L_passed ∈ dp_T := dp_in_ok (q := 2824) rfl rfl
theorem dp_cm_L_read : dp_cw dp_m_L_read ∈ dp_T := dp_in_ok (q := 2858) rfl rfl
theorem dp_cm_L_batchOf : dp_cw dp_m_L_batchOf ∈ dp_T := dp_in_ok (q := 2870) rfl rfl
theorem dp_cm_L_declare : dp_cw dp_m_L_declare ∈ dp_T := dp_in_ok (q := 2878) rfl rfl
theorem dp_cm_L_ask : dp_cw dp_m_L_ask ∈ dp_T := dp_in_ok (q := 2893) rfl rfl
theorem dp_cm_L_again : dp_cw dp_m_L_again ∈ dp_T := dp_in_ok (q := 2912) rfl rfl
theorem dp_cm_L_duty : dp_cw dp_m_L_duty ∈ dp_T := dp_in_ok (q := 2925) rfl rfl
theorem dp_cm_L_assess : dp_cw dp_m_L_assess ∈ dp_T := dp_in_ok (q := 2959) rfl rfl
theorem dp_cm_L_pay : dp_cw dp_m_L_pay ∈ dp_T := dp_in_ok (q := 3000) rfl rfl
theorem dp_cm_L_claim : dp_cw dp_m_L_claim ∈ dp_T := dp_in_ok (q := 3038) rfl rfl
theorem dp_cm_L_correct : dp_cw dp_m_L_correct ∈ dp_T := dp_in_ok (q := 3074) rfl rfl
theorem dp_cm_L_cancel : dp_cw dp_m_L_cancel ∈ dp_T := dp_in_ok (q := 3085) rfl rfl
theorem dp_cm_L_declared : dp_cw dp_m_L_declared ∈ dp_T := dp_in_ok (q := 3103) rfl rfl
theorem dp_cg20 : ∀ mi ∈ dp_g20, dp_cw mi ∈ dp_T := List.forall_mem_cons.mpr ⟨dp_cm_L_account, List.forall_mem_cons.mpr ⟨dp_cm_L_statement, List.forall_mem_cons.mpr ⟨dp_cm_L_passed, List.forall_mem_cons.mpr ⟨dp_cm_L_read, List.forall_mem_cons.mpr ⟨dp_cm_L_batchOf, List.forall_mem_cons.mpr ⟨dp_cm_L_declare, List.forall_mem_cons.mpr ⟨dp_cm_L_ask, List.forall_mem_cons.mpr ⟨dp_cm_L_again, List.forall_mem_cons.mpr ⟨dp_cm_L_duty, List.forall_mem_cons.mpr ⟨dp_cm_L_assess, List.forall_mem_cons.mpr ⟨dp_cm_L_pay, List.forall_mem_cons.mpr ⟨dp_cm_L_claim, List.forall_mem_cons.mpr ⟨dp_cm_L_correct, List.forall_mem_cons.mpr ⟨dp_cm_L_cancel, List.forall_mem_cons.mpr ⟨dp_cm_L_declared, fun _ h => absurd h List.not_mem_nil⟩⟩⟩⟩⟩⟩⟩⟩⟩⟩⟩⟩⟩⟩⟩
def dp_q20 : List (Nat × Nat × Nat × Nat) := [(2787, 256, 2786, 0), (2799, 256, 2798, 0), (2824, 256, 2823, 0), (2858, 256, 2857, 0), (2870, 256, 2869, 0), (2878, 256, 2877, 0), (2893, 256, 2892, 0), (2912, 256, 2911, 0), (2925, 256, 2924, 0), (2959, 256, 2958, 0), (3000, 256, 2999, 0), (3038, 256, 3037, 0), (3074, 256, 3073, 0), (3085, 256, 3084, 0), (3103, 256, 3102, 0)]
set_option maxRecDepth 100000 in
theorem dp_kg20 : (dp_g20.zip dp_q20).all (fun q => dp_ckM q.1 q.2) = true := by decide +kernel

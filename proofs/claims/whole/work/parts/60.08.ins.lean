set_option maxRecDepth 100000 in
theorem dp_d_L_again : dp_InsOk dp_m_L_again := dp_ckD_ok (c := dp_c_L_again) (cc := dp_bytes dp_m_L_again) (by decide +kernel)
set_option maxRecDepth 100000 in
theorem dp_d_L_duty : dp_InsOk dp_m_L_duty := dp_ckD_ok (c := dp_c_L_duty) (cc := dp_bytes dp_m_L_duty) (by decide +kernel)
set_option maxRecDepth 100000 in
theorem dp_d_L_assess : dp_InsOk dp_m_L_assess := dp_ckD_ok (c := dp_c_L_assess) (cc := dp_bytes dp_m_L_assess) (by decide +kernel)
set_option maxRecDepth 100000 in
theorem dp_d_L_pay : dp_InsOk dp_m_L_pay := dp_ckD_ok (c := dp_c_L_pay) (cc := dp_bytes dp_m_L_pay) (by decide +kernel)
set_option maxRecDepth 100000 in
theorem dp_d_L_claim : dp_InsOk dp_m_L_claim := dp_ckD_ok (c := dp_c_L_claim) (cc := dp_bytes dp_m_L_claim) (by decide +kernel)
set_option maxRecDepth 100000 in
theorem dp_d_L_correct : dp_InsOk dp_m_L_correct := dp_ckD_ok (c := dp_c_L_correct) (cc := dp_bytes dp_m_L_correct) (by decide +kernel)
set_option maxRecDepth 100000 in
theorem dp_d_L_cancel : dp_InsOk dp_m_L_cancel := dp_ckD_ok (c := dp_c_L_cancel) (cc := dp_bytes dp_m_L_cancel) (by decide +kernel)
set_option maxRecDepth 100000 in
theorem dp_d_L_declared : dp_InsOk dp_m_L_declared := dp_ckD_ok (c := dp_c_L_declared) (cc := dp_bytes dp_m_L_declared) (by decide +kernel)

/-! THE LAW (4): its pure functions -/
noncomputable def D_L_law_73 (xs : Nat → Int32) (xl d : Nat) (v4 : Int32) (u5 : Option Value) (u6 : Option Value) (u7 : Option Value) (M : dp_M) : Option dp_Res := dp_lim true xs xl (dp_den true xs xl d) dp_m_L_law (73, [some (.retAddr 0), some (.ref 0), some (.ref 114), some (.ref 245), some (.int v4), u5, u6, u7], [], M)
noncomputable def D_L_law_6132 (xs : Nat → Int32) (xl d : Nat) (v4 : Int32) (u5 : Option Value) (u6 : Option Value) (u7 : Option Value) (M : dp_M) : Option dp_Res := dp_lim true xs xl (dp_den true xs xl d) dp_m_L_law (6132, [some (.retAddr 0), some (.ref 0), some (.ref 114), some (.ref 245), some (.int v4), u5, u6, u7], [], M)
noncomputable def D_L_law_448 (xs : Nat → Int32) (xl d : Nat) (v4 : Int32) (u5 : Option Value) (u6 : Option Value) (u7 : Option Value) (M : dp_M) : Option dp_Res := dp_lim true xs xl (dp_den true xs xl d) dp_m_L_law (448, [some (.retAddr 0), some (.ref 0), some (.ref 114), some (.ref 245), some (.int v4), u5, u6, u7], [], M)
noncomputable def D_L_law_580 (xs : Nat → Int32) (xl d : Nat) (v4 : Int32) (u5 : Option Value) (u6 : Option Value) (u7 : Option Value) (M : dp_M) : Option dp_Res := dp_lim true xs xl (dp_den true xs xl d) dp_m_L_law (580, [some (.retAddr 0), some (.ref 0), some (.ref 114), some (.ref 245), some (.int v4), u5, u6, u7], [], M)
noncomputable def D_L_law_617 (xs : Nat → Int32) (xl d : Nat) (v4 : Int32) (u5 : Option Value) (u6 : Option Value) (u7 : Option Value) (M : dp_M) : Option dp_Res := dp_lim true xs xl (dp_den true xs xl d) dp_m_L_law (617, [some (.retAddr 0), some (.ref 0), some (.ref 114), some (.ref 245), some (.int v4), u5, u6, u7], [], M)
noncomputable def D_L_law_673 (xs : Nat → Int32) (xl d : Nat) (v4 : Int32) (u5 : Option Value) (u6 : Option Value) (u7 : Option Value) (M : dp_M) : Option dp_Res := dp_lim true xs xl (dp_den true xs xl d) dp_m_L_law (673, [some (.retAddr 0), some (.ref 0), some (.ref 114), some (.ref 245), some (.int v4), u5, u6, u7], [], M)
noncomputable def D_L_law_753 (xs : Nat → Int32) (xl d : Nat) (v4 : Int32) (u5 : Option Value) (u6 : Option Value) (u7 : Option Value) (M : dp_M) : Option dp_Res := dp_lim true xs xl (dp_den true xs xl d) dp_m_L_law (753, [some (.retAddr 0), some (.ref 0), some (.ref 114), some (.ref 245), some (.int v4), u5, u6, u7], [], M)
noncomputable def D_L_law_809 (xs : Nat → Int32) (xl d : Nat) (v4 : Int32) (u5 : Option Value) (u6 : Option Value) (u7 : Option Value) (M : dp_M) : Option dp_Res := dp_lim true xs xl (dp_den true xs xl d) dp_m_L_law (809, [some (.retAddr 0), some (.ref 0), some (.ref 114), some (.ref 245), some (.int v4), u5, u6, u7], [], M)
noncomputable def D_L_law_865 (xs : Nat → Int32) (xl d : Nat) (v4 : Int32) (u5 : Option Value) (u6 : Option Value) (u7 : Option Value) (M : dp_M) : Option dp_Res := dp_lim true xs xl (dp_den true xs xl d) dp_m_L_law (865, [some (.retAddr 0), some (.ref 0), some (.ref 114), some (.ref 245), some (.int v4), u5, u6, u7], [], M)
noncomputable def D_L_law_933 (xs : Nat → Int32) (xl d : Nat) (v4 : Int32) (u5 : Option Value) (u6 : Option Value) (u7 : Option Value) (M : dp_M) : Option dp_Res := dp_lim true xs xl (dp_den true xs xl d) dp_m_L_law (933, [some (.retAddr 0), some (.ref 0), some (.ref 114), some (.ref 245), some (.int v4), u5, u6, u7], [], M)
noncomputable def D_L_law_1001 (xs : Nat → Int32) (xl d : Nat) (v4 : Int32) (u5 : Option Value) (u6 : Option Value) (u7 : Option Value) (M : dp_M) : Option dp_Res := dp_lim true xs xl (dp_den true xs xl d) dp_m_L_law (1001, [some (.retAddr 0), some (.ref 0), some (.ref 114), some (.ref 245), some (.int v4), u5, u6, u7], [], M)
noncomputable def D_L_law_1038 (xs : Nat → Int32) (xl d : Nat) (v4 : Int32) (u5 : Option Value) (u6 : Option Value) (u7 : Option Value) (M : dp_M) : Option dp_Res := dp_lim true xs xl (dp_den true xs xl d) dp_m_L_law (1038, [some (.retAddr 0), some (.ref 0), some (.ref 114), some (.ref 245), some (.int v4), u5, u6, u7], [], M)
noncomputable def D_L_law_1075 (xs : Nat → Int32) (xl d : Nat) (v4 : Int32) (u5 : Option Value) (u6 : Option Value) (u7 : Option Value) (M : dp_M) : Option dp_Res := dp_lim true xs xl (dp_den true xs xl d) dp_m_L_law (1075, [some (.retAddr 0), some (.ref 0), some (.ref 114), some (.ref 245), some (.int v4), u5, u6, u7], [], M)
noncomputable def D_L_law_1143 (xs : Nat → Int32) (xl d : Nat) (v4 : Int32) (u5 : Option Value) (u6 : Option Value) (u7 : Option Value) (M : dp_M) : Option dp_Res := dp_lim true xs xl (dp_den true xs xl d) dp_m_L_law (1143, [some (.retAddr 0), some (.ref 0), some (.ref 114), some (.ref 245), some (.int v4), u5, u6, u7], [], M)
noncomputable def D_L_law_1199 (xs : Nat → Int32) (xl d : Nat) (v4 : Int32) (u5 : Option Value) (u6 : Option Value) (u7 : Option Value) (M : dp_M) : Option dp_Res := dp_lim true xs xl (dp_den true xs xl d) dp_m_L_law (1199, [some (.retAddr 0), some (.ref 0), some (.ref 114), some (.ref 245), some (.int v4), u5, u6, u7], [], M)
noncomputable def D_L_law_1267 (xs : Nat → Int32) (xl d : Nat) (v4 : Int32) (u5 : Option Value) (u6 : Option Value) (u7 : Option Value) (M : dp_M) : Option dp_Res := dp_lim true xs xl (dp_den true xs xl d) dp_m_L_law (1267, [some (.retAddr 0), some (.ref 0), some (.ref 114), some (.ref 245), some (.int v4), u5, u6, u7], [], M)
noncomputable def D_L_law_1323 (xs : Nat → Int32) (xl d : Nat) (v4 : Int32) (u5 : Option Value) (u6 : Option Value) (u7 : Option Value) (M : dp_M) : Option dp_Res := dp_lim true xs xl (dp_den true xs xl d) dp_m_L_law (1323, [some (.retAddr 0), some (.ref 0), some (.ref 114), some (.ref 245), some (.int v4), u5, u6, u7], [], M)
noncomputable def D_L_law_1379 (xs : Nat → Int32) (xl d : Nat) (v4 : Int32) (u5 : Option Value) (u6 : Option Value) (u7 : Option Value) (M : dp_M) : Option dp_Res := dp_lim true xs xl (dp_den true xs xl d) dp_m_L_law (1379, [some (.retAddr 0), some (.ref 0), some (.ref 114), some (.ref 245), some (.int v4), u5, u6, u7], [], M)
noncomputable def D_L_law_1392 (xs : Nat → Int32) (xl d : Nat) (v4 : Int32) (u5 : Option Value) (u6 : Option Value) (u7 : Option Value) (M : dp_M) : Option dp_Res := dp_lim true xs xl (dp_den true xs xl d) dp_m_L_law (1392, [some (.retAddr 0), some (.ref 0), some (.ref 114), some (.ref 245), some (.int v4), u5, u6, u7], [], M)
noncomputable def D_L_law_1460 (xs : Nat → Int32) (xl d : Nat) (v4 : Int32) (u5 : Option Value) (u6 : Option Value) (u7 : Option Value) (M : dp_M) : Option dp_Res := dp_lim true xs xl (dp_den true xs xl d) dp_m_L_law (1460, [some (.retAddr 0), some (.ref 0), some (.ref 114), some (.ref 245), some (.int v4), u5, u6, u7], [], M)
noncomputable def D_L_law_1528 (xs : Nat → Int32) (xl d : Nat) (v4 : Int32) (u5 : Option Value) (u6 : Option Value) (u7 : Option Value) (M : dp_M) : Option dp_Res := dp_lim true xs xl (dp_den true xs xl d) dp_m_L_law (1528, [some (.retAddr 0), some (.ref 0), some (.ref 114), some (.ref 245), some (.int v4), u5, u6, u7], [], M)
noncomputable def D_L_law_1596 (xs : Nat → Int32) (xl d : Nat) (v4 : Int32) (u5 : Option Value) (u6 : Option Value) (u7 : Option Value) (M : dp_M) : Option dp_Res := dp_lim true xs xl (dp_den true xs xl d) dp_m_L_law (1596, [some (.retAddr 0), some (.ref 0), some (.ref 114), some (.ref 245), some (.int v4), u5, u6, u7], [], M)
noncomputable def D_L_law_1688 (xs : Nat → Int32) (xl d : Nat) (v4 : Int32) (u5 : Option Value) (u6 : Option Value) (u7 : Option Value) (M : dp_M) : Option dp_Res := dp_lim true xs xl (dp_den true xs xl d) dp_m_L_law (1688, [some (.retAddr 0), some (.ref 0), some (.ref 114), some (.ref 245), some (.int v4), u5, u6, u7], [], M)
noncomputable def D_L_law_1780 (xs : Nat → Int32) (xl d : Nat) (v4 : Int32) (u5 : Option Value) (u6 : Option Value) (u7 : Option Value) (M : dp_M) : Option dp_Res := dp_lim true xs xl (dp_den true xs xl d) dp_m_L_law (1780, [some (.retAddr 0), some (.ref 0), some (.ref 114), some (.ref 245), some (.int v4), u5, u6, u7], [], M)
noncomputable def D_L_law_1848 (xs : Nat → Int32) (xl d : Nat) (v4 : Int32) (u5 : Option Value) (u6 : Option Value) (u7 : Option Value) (M : dp_M) : Option dp_Res := dp_lim true xs xl (dp_den true xs xl d) dp_m_L_law (1848, [some (.retAddr 0), some (.ref 0), some (.ref 114), some (.ref 245), some (.int v4), u5, u6, u7], [], M)
noncomputable def D_L_law_1897 (xs : Nat → Int32) (xl d : Nat) (v4 : Int32) (u5 : Option Value) (u6 : Option Value) (u7 : Option Value) (M : dp_M) : Option dp_Res := dp_lim true xs xl (dp_den true xs xl d) dp_m_L_law (1897, [some (.retAddr 0), some (.ref 0), some (.ref 114), some (.ref 245), some (.int v4), u5, u6, u7], [], M)
noncomputable def D_L_law_1953 (xs : Nat → Int32) (xl d : Nat) (v4 : Int32) (u5 : Option Value) (u6 : Option Value) (u7 : Option Value) (M : dp_M) : Option dp_Res := dp_lim true xs xl (dp_den true xs xl d) dp_m_L_law (1953, [some (.retAddr 0), some (.ref 0), some (.ref 114), some (.ref 245), some (.int v4), u5, u6, u7], [], M)
noncomputable def D_L_law_2021 (xs : Nat → Int32) (xl d : Nat) (v4 : Int32) (u5 : Option Value) (u6 : Option Value) (u7 : Option Value) (M : dp_M) : Option dp_Res := dp_lim true xs xl (dp_den true xs xl d) dp_m_L_law (2021, [some (.retAddr 0), some (.ref 0), some (.ref 114), some (.ref 245), some (.int v4), u5, u6, u7], [], M)
noncomputable def D_L_law_2089 (xs : Nat → Int32) (xl d : Nat) (v4 : Int32) (u5 : Option Value) (u6 : Option Value) (u7 : Option Value) (M : dp_M) : Option dp_Res := dp_lim true xs xl (dp_den true xs xl d) dp_m_L_law (2089, [some (.retAddr 0), some (.ref 0), some (.ref 114), some (.ref 245), some (.int v4), u5, u6, u7], [], M)
noncomputable def D_L_law_2145 (xs : Nat → Int32) (xl d : Nat) (v4 : Int32) (u5 : Option Value) (u6 : Option Value) (u7 : Option Value) (M : dp_M) : Option dp_Res := dp_lim true xs xl (dp_den true xs xl d) dp_m_L_law (2145, [some (.retAddr 0), some (.ref 0), some (.ref 114), some (.ref 245), some (.int v4), u5, u6, u7], [], M)
noncomputable def D_L_law_2201 (xs : Nat → Int32) (xl d : Nat) (v4 : Int32) (u5 : Option Value) (u6 : Option Value) (u7 : Option Value) (M : dp_M) : Option dp_Res := dp_lim true xs xl (dp_den true xs xl d) dp_m_L_law (2201, [some (.retAddr 0), some (.ref 0), some (.ref 114), some (.ref 245), some (.int v4), u5, u6, u7], [], M)
noncomputable def D_L_law_2266 (xs : Nat → Int32) (xl d : Nat) (v4 : Int32) (u5 : Option Value) (u6 : Option Value) (u7 : Option Value) (M : dp_M) : Option dp_Res := dp_lim true xs xl (dp_den true xs xl d) dp_m_L_law (2266, [some (.retAddr 0), some (.ref 0), some (.ref 114), some (.ref 245), some (.int v4), u5, u6, u7], [], M)
noncomputable def D_L_law_2291 (xs : Nat → Int32) (xl d : Nat) (v4 : Int32) (u5 : Option Value) (u6 : Option Value) (u7 : Option Value) (M : dp_M) : Option dp_Res := dp_lim true xs xl (dp_den true xs xl d) dp_m_L_law (2291, [some (.retAddr 0), some (.ref 0), some (.ref 114), some (.ref 245), some (.int v4), u5, u6, u7], [], M)
noncomputable def D_L_law_2359 (xs : Nat → Int32) (xl d : Nat) (v4 : Int32) (u5 : Option Value) (u6 : Option Value) (u7 : Option Value) (M : dp_M) : Option dp_Res := dp_lim true xs xl (dp_den true xs xl d) dp_m_L_law (2359, [some (.retAddr 0), some (.ref 0), some (.ref 114), some (.ref 245), some (.int v4), u5, u6, u7], [], M)
noncomputable def D_L_law_2396 (xs : Nat → Int32) (xl d : Nat) (v4 : Int32) (u5 : Option Value) (u6 : Option Value) (u7 : Option Value) (M : dp_M) : Option dp_Res := dp_lim true xs xl (dp_den true xs xl d) dp_m_L_law (2396, [some (.retAddr 0), some (.ref 0), some (.ref 114), some (.ref 245), some (.int v4), u5, u6, u7], [], M)
noncomputable def D_L_law_2528 (xs : Nat → Int32) (xl d : Nat) (v4 : Int32) (u5 : Option Value) (u6 : Option Value) (u7 : Option Value) (M : dp_M) : Option dp_Res := dp_lim true xs xl (dp_den true xs xl d) dp_m_L_law (2528, [some (.retAddr 0), some (.ref 0), some (.ref 114), some (.ref 245), some (.int v4), u5, u6, u7], [], M)
noncomputable def D_L_law_2565 (xs : Nat → Int32) (xl d : Nat) (v4 : Int32) (u5 : Option Value) (u6 : Option Value) (u7 : Option Value) (M : dp_M) : Option dp_Res := dp_lim true xs xl (dp_den true xs xl d) dp_m_L_law (2565, [some (.retAddr 0), some (.ref 0), some (.ref 114), some (.ref 245), some (.int v4), u5, u6, u7], [], M)
noncomputable def D_L_law_2602 (xs : Nat → Int32) (xl d : Nat) (v4 : Int32) (u5 : Option Value) (u6 : Option Value) (u7 : Option Value) (M : dp_M) : Option dp_Res := dp_lim true xs xl (dp_den true xs xl d) dp_m_L_law (2602, [some (.retAddr 0), some (.ref 0), some (.ref 114), some (.ref 245), some (.int v4), u5, u6, u7], [], M)
noncomputable def D_L_law_2682 (xs : Nat → Int32) (xl d : Nat) (v4 : Int32) (u5 : Option Value) (u6 : Option Value) (u7 : Option Value) (M : dp_M) : Option dp_Res := dp_lim true xs xl (dp_den true xs xl d) dp_m_L_law (2682, [some (.retAddr 0), some (.ref 0), some (.ref 114), some (.ref 245), some (.int v4), u5, u6, u7], [], M)
noncomputable def D_L_law_2705 (xs : Nat → Int32) (xl d : Nat) (v4 : Int32) (u5 : Option Value) (u6 : Option Value) (u7 : Option Value) (M : dp_M) : Option dp_Res := dp_lim true xs xl (dp_den true xs xl d) dp_m_L_law (2705, [some (.retAddr 0), some (.ref 0), some (.ref 114), some (.ref 245), some (.int v4), u5, u6, u7], [], M)
noncomputable def D_L_law_2797 (xs : Nat → Int32) (xl d : Nat) (v4 : Int32) (u5 : Option Value) (u6 : Option Value) (u7 : Option Value) (M : dp_M) : Option dp_Res := dp_lim true xs xl (dp_den true xs xl d) dp_m_L_law (2797, [some (.retAddr 0), some (.ref 0), some (.ref 114), some (.ref 245), some (.int v4), u5, u6, u7], [], M)
noncomputable def D_L_law_2822 (xs : Nat → Int32) (xl d : Nat) (v4 : Int32) (u5 : Option Value) (u6 : Option Value) (u7 : Option Value) (M : dp_M) : Option dp_Res := dp_lim true xs xl (dp_den true xs xl d) dp_m_L_law (2822, [some (.retAddr 0), some (.ref 0), some (.ref 114), some (.ref 245), some (.int v4), u5, u6, u7], [], M)
noncomputable def D_L_law_2891 (xs : Nat → Int32) (xl d : Nat) (v4 : Int32) (u5 : Option Value) (u6 : Option Value) (u7 : Option Value) (M : dp_M) : Option dp_Res := dp_lim true xs xl (dp_den true xs xl d) dp_m_L_law (2891, [some (.retAddr 0), some (.ref 0), some (.ref 114), some (.ref 245), some (.int v4), u5, u6, u7], [], M)
noncomputable def D_L_law_2947 (xs : Nat → Int32) (xl d : Nat) (v4 : Int32) (u5 : Option Value) (u6 : Option Value) (u7 : Option Value) (M : dp_M) : Option dp_Res := dp_lim true xs xl (dp_den true xs xl d) dp_m_L_law (2947, [some (.retAddr 0), some (.ref 0), some (.ref 114), some (.ref 245), some (.int v4), u5, u6, u7], [], M)
noncomputable def D_L_law_3027 (xs : Nat → Int32) (xl d : Nat) (v4 : Int32) (u5 : Option Value) (u6 : Option Value) (u7 : Option Value) (M : dp_M) : Option dp_Res := dp_lim true xs xl (dp_den true xs xl d) dp_m_L_law (3027, [some (.retAddr 0), some (.ref 0), some (.ref 114), some (.ref 245), some (.int v4), u5, u6, u7], [], M)
noncomputable def D_L_law_3083 (xs : Nat → Int32) (xl d : Nat) (v4 : Int32) (u5 : Option Value) (u6 : Option Value) (u7 : Option Value) (M : dp_M) : Option dp_Res := dp_lim true xs xl (dp_den true xs xl d) dp_m_L_law (3083, [some (.retAddr 0), some (.ref 0), some (.ref 114), some (.ref 245), some (.int v4), u5, u6, u7], [], M)
noncomputable def D_L_law_3139 (xs : Nat → Int32) (xl d : Nat) (v4 : Int32) (u5 : Option Value) (u6 : Option Value) (u7 : Option Value) (M : dp_M) : Option dp_Res := dp_lim true xs xl (dp_den true xs xl d) dp_m_L_law (3139, [some (.retAddr 0), some (.ref 0), some (.ref 114), some (.ref 245), some (.int v4), u5, u6, u7], [], M)
noncomputable def D_L_law_3296 (xs : Nat → Int32) (xl d : Nat) (v4 : Int32) (u5 : Option Value) (u6 : Option Value) (u7 : Option Value) (M : dp_M) : Option dp_Res := dp_lim true xs xl (dp_den true xs xl d) dp_m_L_law (3296, [some (.retAddr 0), some (.ref 0), some (.ref 114), some (.ref 245), some (.int v4), u5, u6, u7], [], M)
noncomputable def D_L_law_3408 (xs : Nat → Int32) (xl d : Nat) (v4 : Int32) (u5 : Option Value) (u6 : Option Value) (u7 : Option Value) (M : dp_M) : Option dp_Res := dp_lim true xs xl (dp_den true xs xl d) dp_m_L_law (3408, [some (.retAddr 0), some (.ref 0), some (.ref 114), some (.ref 245), some (.int v4), u5, u6, u7], [], M)
noncomputable def D_L_law_3476 (xs : Nat → Int32) (xl d : Nat) (v4 : Int32) (u5 : Option Value) (u6 : Option Value) (u7 : Option Value) (M : dp_M) : Option dp_Res := dp_lim true xs xl (dp_den true xs xl d) dp_m_L_law (3476, [some (.retAddr 0), some (.ref 0), some (.ref 114), some (.ref 245), some (.int v4), u5, u6, u7], [], M)
noncomputable def D_L_law_3579 (xs : Nat → Int32) (xl d : Nat) (v4 : Int32) (u5 : Option Value) (u6 : Option Value) (u7 : Option Value) (M : dp_M) : Option dp_Res := dp_lim true xs xl (dp_den true xs xl d) dp_m_L_law (3579, [some (.retAddr 0), some (.ref 0), some (.ref 114), some (.ref 245), some (.int v4), u5, u6, u7], [], M)
noncomputable def D_L_law_3698 (xs : Nat → Int32) (xl d : Nat) (v4 : Int32) (u5 : Option Value) (u6 : Option Value) (u7 : Option Value) (M : dp_M) : Option dp_Res := dp_lim true xs xl (dp_den true xs xl d) dp_m_L_law (3698, [some (.retAddr 0), some (.ref 0), some (.ref 114), some (.ref 245), some (.int v4), u5, u6, u7], [], M)
noncomputable def D_L_law_3765 (xs : Nat → Int32) (xl d : Nat) (v4 : Int32) (u5 : Option Value) (u6 : Option Value) (u7 : Option Value) (M : dp_M) : Option dp_Res := dp_lim true xs xl (dp_den true xs xl d) dp_m_L_law (3765, [some (.retAddr 0), some (.ref 0), some (.ref 114), some (.ref 245), some (.int v4), u5, u6, u7], [], M)
noncomputable def D_L_law_3832 (xs : Nat → Int32) (xl d : Nat) (v4 : Int32) (u5 : Option Value) (u6 : Option Value) (u7 : Option Value) (M : dp_M) : Option dp_Res := dp_lim true xs xl (dp_den true xs xl d) dp_m_L_law (3832, [some (.retAddr 0), some (.ref 0), some (.ref 114), some (.ref 245), some (.int v4), u5, u6, u7], [], M)
noncomputable def D_L_law_4000 (xs : Nat → Int32) (xl d : Nat) (v4 : Int32) (u5 : Option Value) (u6 : Option Value) (u7 : Option Value) (M : dp_M) : Option dp_Res := dp_lim true xs xl (dp_den true xs xl d) dp_m_L_law (4000, [some (.retAddr 0), some (.ref 0), some (.ref 114), some (.ref 245), some (.int v4), u5, u6, u7], [], M)
noncomputable def D_L_law_4025 (xs : Nat → Int32) (xl d : Nat) (v4 : Int32) (u5 : Option Value) (u6 : Option Value) (u7 : Option Value) (M : dp_M) : Option dp_Res := dp_lim true xs xl (dp_den true xs xl d) dp_m_L_law (4025, [some (.retAddr 0), some (.ref 0), some (.ref 114), some (.ref 245), some (.int v4), u5, u6, u7], [], M)
noncomputable def D_L_law_4050 (xs : Nat → Int32) (xl d : Nat) (v4 : Int32) (u5 : Option Value) (u6 : Option Value) (u7 : Option Value) (M : dp_M) : Option dp_Res := dp_lim true xs xl (dp_den true xs xl d) dp_m_L_law (4050, [some (.retAddr 0), some (.ref 0), some (.ref 114), some (.ref 245), some (.int v4), u5, u6, u7], [], M)
noncomputable def D_L_law_4103 (xs : Nat → Int32) (xl d : Nat) (v4 : Int32) (u5 : Option Value) (u6 : Option Value) (u7 : Option Value) (M : dp_M) : Option dp_Res := dp_lim true xs xl (dp_den true xs xl d) dp_m_L_law (4103, [some (.retAddr 0), some (.ref 0), some (.ref 114), some (.ref 245), some (.int v4), u5, u6, u7], [], M)
noncomputable def D_L_law_4128 (xs : Nat → Int32) (xl d : Nat) (v4 : Int32) (u5 : Option Value) (u6 : Option Value) (u7 : Option Value) (M : dp_M) : Option dp_Res := dp_lim true xs xl (dp_den true xs xl d) dp_m_L_law (4128, [some (.retAddr 0), some (.ref 0), some (.ref 114), some (.ref 245), some (.int v4), u5, u6, u7], [], M)
noncomputable def D_L_law_4183 (xs : Nat → Int32) (xl d : Nat) (v4 : Int32) (u5 : Option Value) (u6 : Option Value) (u7 : Option Value) (M : dp_M) : Option dp_Res := dp_lim true xs xl (dp_den true xs xl d) dp_m_L_law (4183, [some (.retAddr 0), some (.ref 0), some (.ref 114), some (.ref 245), some (.int v4), u5, u6, u7], [], M)
noncomputable def D_L_law_4209 (xs : Nat → Int32) (xl d : Nat) (v4 : Int32) (u5 : Option Value) (u6 : Option Value) (u7 : Option Value) (M : dp_M) : Option dp_Res := dp_lim true xs xl (dp_den true xs xl d) dp_m_L_law (4209, [some (.retAddr 0), some (.ref 0), some (.ref 114), some (.ref 245), some (.int v4), u5, u6, u7], [], M)
noncomputable def D_L_law_4246 (xs : Nat → Int32) (xl d : Nat) (v4 : Int32) (u5 : Option Value) (u6 : Option Value) (u7 : Option Value) (M : dp_M) : Option dp_Res := dp_lim true xs xl (dp_den true xs xl d) dp_m_L_law (4246, [some (.retAddr 0), some (.ref 0), some (.ref 114), some (.ref 245), some (.int v4), u5, u6, u7], [], M)
noncomputable def D_L_law_4313 (xs : Nat → Int32) (xl d : Nat) (v4 : Int32) (u5 : Option Value) (u6 : Option Value) (u7 : Option Value) (M : dp_M) : Option dp_Res := dp_lim true xs xl (dp_den true xs xl d) dp_m_L_law (4313, [some (.retAddr 0), some (.ref 0), some (.ref 114), some (.ref 245), some (.int v4), u5, u6, u7], [], M)
noncomputable def D_L_law_4380 (xs : Nat → Int32) (xl d : Nat) (v4 : Int32) (u5 : Option Value) (u6 : Option Value) (u7 : Option Value) (M : dp_M) : Option dp_Res := dp_lim true xs xl (dp_den true xs xl d) dp_m_L_law (4380, [some (.retAddr 0), some (.ref 0), some (.ref 114), some (.ref 245), some (.int v4), u5, u6, u7], [], M)
noncomputable def D_L_law_4448 (xs : Nat → Int32) (xl d : Nat) (v4 : Int32) (u5 : Option Value) (u6 : Option Value) (u7 : Option Value) (M : dp_M) : Option dp_Res := dp_lim true xs xl (dp_den true xs xl d) dp_m_L_law (4448, [some (.retAddr 0), some (.ref 0), some (.ref 114), some (.ref 245), some (.int v4), u5, u6, u7], [], M)
noncomputable def D_L_law_4529 (xs : Nat → Int32) (xl d : Nat) (v4 : Int32) (u5 : Option Value) (u6 : Option Value) (u7 : Option Value) (M : dp_M) : Option dp_Res := dp_lim true xs xl (dp_den true xs xl d) dp_m_L_law (4529, [some (.retAddr 0), some (.ref 0), some (.ref 114), some (.ref 245), some (.int v4), u5, u6, u7], [], M)
noncomputable def D_L_law_4582 (xs : Nat → Int32) (xl d : Nat) (v4 : Int32) (u5 : Option Value) (u6 : Option Value) (u7 : Option Value) (M : dp_M) : Option dp_Res := dp_lim true xs xl (dp_den true xs xl d) dp_m_L_law (4582, [some (.retAddr 0), some (.ref 0), some (.ref 114), some (.ref 245), some (.int v4), u5, u6, u7], [], M)
noncomputable def D_L_law_4638 (xs : Nat → Int32) (xl d : Nat) (v4 : Int32) (u5 : Option Value) (u6 : Option Value) (u7 : Option Value) (M : dp_M) : Option dp_Res := dp_lim true xs xl (dp_den true xs xl d) dp_m_L_law (4638, [some (.retAddr 0), some (.ref 0), some (.ref 114), some (.ref 245), some (.int v4), u5, u6, u7], [], M)
noncomputable def D_L_law_4706 (xs : Nat → Int32) (xl d : Nat) (v4 : Int32) (u5 : Option Value) (u6 : Option Value) (u7 : Option Value) (M : dp_M) : Option dp_Res := dp_lim true xs xl (dp_den true xs xl d) dp_m_L_law (4706, [some (.retAddr 0), some (.ref 0), some (.ref 114), some (.ref 245), some (.int v4), u5, u6, u7], [], M)
noncomputable def D_L_law_4731 (xs : Nat → Int32) (xl d : Nat) (v4 : Int32) (u5 : Option Value) (u6 : Option Value) (u7 : Option Value) (M : dp_M) : Option dp_Res := dp_lim true xs xl (dp_den true xs xl d) dp_m_L_law (4731, [some (.retAddr 0), some (.ref 0), some (.ref 114), some (.ref 245), some (.int v4), u5, u6, u7], [], M)
noncomputable def D_L_law_4810 (xs : Nat → Int32) (xl d : Nat) (v4 : Int32) (u5 : Option Value) (u6 : Option Value) (u7 : Option Value) (M : dp_M) : Option dp_Res := dp_lim true xs xl (dp_den true xs xl d) dp_m_L_law (4810, [some (.retAddr 0), some (.ref 0), some (.ref 114), some (.ref 245), some (.int v4), u5, u6, u7], [], M)
noncomputable def D_L_law_4889 (xs : Nat → Int32) (xl d : Nat) (v4 : Int32) (u5 : Option Value) (u6 : Option Value) (u7 : Option Value) (M : dp_M) : Option dp_Res := dp_lim true xs xl (dp_den true xs xl d) dp_m_L_law (4889, [some (.retAddr 0), some (.ref 0), some (.ref 114), some (.ref 245), some (.int v4), u5, u6, u7], [], M)
noncomputable def D_L_law_4938 (xs : Nat → Int32) (xl d : Nat) (v4 : Int32) (u5 : Option Value) (u6 : Option Value) (u7 : Option Value) (M : dp_M) : Option dp_Res := dp_lim true xs xl (dp_den true xs xl d) dp_m_L_law (4938, [some (.retAddr 0), some (.ref 0), some (.ref 114), some (.ref 245), some (.int v4), u5, u6, u7], [], M)
noncomputable def D_L_law_4975 (xs : Nat → Int32) (xl d : Nat) (v4 : Int32) (u5 : Option Value) (u6 : Option Value) (u7 : Option Value) (M : dp_M) : Option dp_Res := dp_lim true xs xl (dp_den true xs xl d) dp_m_L_law (4975, [some (.retAddr 0), some (.ref 0), some (.ref 114), some (.ref 245), some (.int v4), u5, u6, u7], [], M)
noncomputable def D_L_law_5054 (xs : Nat → Int32) (xl d : Nat) (v4 : Int32) (u5 : Option Value) (u6 : Option Value) (u7 : Option Value) (M : dp_M) : Option dp_Res := dp_lim true xs xl (dp_den true xs xl d) dp_m_L_law (5054, [some (.retAddr 0), some (.ref 0), some (.ref 114), some (.ref 245), some (.int v4), u5, u6, u7], [], M)
noncomputable def D_L_law_5121 (xs : Nat → Int32) (xl d : Nat) (v4 : Int32) (u5 : Option Value) (u6 : Option Value) (u7 : Option Value) (M : dp_M) : Option dp_Res := dp_lim true xs xl (dp_den true xs xl d) dp_m_L_law (5121, [some (.retAddr 0), some (.ref 0), some (.ref 114), some (.ref 245), some (.int v4), u5, u6, u7], [], M)
noncomputable def D_L_law_5189 (xs : Nat → Int32) (xl d : Nat) (v4 : Int32) (u5 : Option Value) (u6 : Option Value) (u7 : Option Value) (M : dp_M) : Option dp_Res := dp_lim true xs xl (dp_den true xs xl d) dp_m_L_law (5189, [some (.retAddr 0), some (.ref 0), some (.ref 114), some (.ref 245), some (.int v4), u5, u6, u7], [], M)
noncomputable def D_L_law_5355 (xs : Nat → Int32) (xl d : Nat) (v4 : Int32) (u5 : Option Value) (u6 : Option Value) (u7 : Option Value) (M : dp_M) : Option dp_Res := dp_lim true xs xl (dp_den true xs xl d) dp_m_L_law (5355, [some (.retAddr 0), some (.ref 0), some (.ref 114), some (.ref 245), some (.int v4), u5, u6, u7], [], M)
noncomputable def D_L_law_5436 (xs : Nat → Int32) (xl d : Nat) (v4 : Int32) (u5 : Option Value) (u6 : Option Value) (u7 : Option Value) (M : dp_M) : Option dp_Res := dp_lim true xs xl (dp_den true xs xl d) dp_m_L_law (5436, [some (.retAddr 0), some (.ref 0), some (.ref 114), some (.ref 245), some (.int v4), u5, u6, u7], [], M)
noncomputable def D_L_law_5548 (xs : Nat → Int32) (xl d : Nat) (v4 : Int32) (u5 : Option Value) (u6 : Option Value) (u7 : Option Value) (M : dp_M) : Option dp_Res := dp_lim true xs xl (dp_den true xs xl d) dp_m_L_law (5548, [some (.retAddr 0), some (.ref 0), some (.ref 114), some (.ref 245), some (.int v4), u5, u6, u7], [], M)
noncomputable def D_L_law_5648 (xs : Nat → Int32) (xl d : Nat) (v4 : Int32) (u5 : Option Value) (u6 : Option Value) (u7 : Option Value) (M : dp_M) : Option dp_Res := dp_lim true xs xl (dp_den true xs xl d) dp_m_L_law (5648, [some (.retAddr 0), some (.ref 0), some (.ref 114), some (.ref 245), some (.int v4), u5, u6, u7], [], M)
noncomputable def D_L_law_5715 (xs : Nat → Int32) (xl d : Nat) (v4 : Int32) (u5 : Option Value) (u6 : Option Value) (u7 : Option Value) (M : dp_M) : Option dp_Res := dp_lim true xs xl (dp_den true xs xl d) dp_m_L_law (5715, [some (.retAddr 0), some (.ref 0), some (.ref 114), some (.ref 245), some (.int v4), u5, u6, u7], [], M)
noncomputable def D_L_law_5782 (xs : Nat → Int32) (xl d : Nat) (v4 : Int32) (u5 : Option Value) (u6 : Option Value) (u7 : Option Value) (M : dp_M) : Option dp_Res := dp_lim true xs xl (dp_den true xs xl d) dp_m_L_law (5782, [some (.retAddr 0), some (.ref 0), some (.ref 114), some (.ref 245), some (.int v4), u5, u6, u7], [], M)
noncomputable def D_L_law_5850 (xs : Nat → Int32) (xl d : Nat) (v4 : Int32) (u5 : Option Value) (u6 : Option Value) (u7 : Option Value) (M : dp_M) : Option dp_Res := dp_lim true xs xl (dp_den true xs xl d) dp_m_L_law (5850, [some (.retAddr 0), some (.ref 0), some (.ref 114), some (.ref 245), some (.int v4), u5, u6, u7], [], M)
noncomputable def D_L_law_5917 (xs : Nat → Int32) (xl d : Nat) (v4 : Int32) (u5 : Option Value) (u6 : Option Value) (u7 : Option Value) (M : dp_M) : Option dp_Res := dp_lim true xs xl (dp_den true xs xl d) dp_m_L_law (5917, [some (.retAddr 0), some (.ref 0), some (.ref 114), some (.ref 245), some (.int v4), u5, u6, u7], [], M)
noncomputable def D_L_law_5984 (xs : Nat → Int32) (xl d : Nat) (v4 : Int32) (u5 : Option Value) (u6 : Option Value) (u7 : Option Value) (M : dp_M) : Option dp_Res := dp_lim true xs xl (dp_den true xs xl d) dp_m_L_law (5984, [some (.retAddr 0), some (.ref 0), some (.ref 114), some (.ref 245), some (.int v4), u5, u6, u7], [], M)
noncomputable def D_L_law_6040 (xs : Nat → Int32) (xl d : Nat) (v4 : Int32) (u5 : Option Value) (u6 : Option Value) (u7 : Option Value) (M : dp_M) : Option dp_Res := dp_lim true xs xl (dp_den true xs xl d) dp_m_L_law (6040, [some (.retAddr 0), some (.ref 0), some (.ref 114), some (.ref 245), some (.int v4), u5, u6, u7], [], M)
noncomputable def D_L_law_6107 (xs : Nat → Int32) (xl d : Nat) (v4 : Int32) (u5 : Option Value) (u6 : Option Value) (u7 : Option Value) (M : dp_M) : Option dp_Res := dp_lim true xs xl (dp_den true xs xl d) dp_m_L_law (6107, [some (.retAddr 0), some (.ref 0), some (.ref 114), some (.ref 245), some (.int v4), u5, u6, u7], [], M)
set_option maxRecDepth 20000 in
theorem D_L_law_73_eq (xs : Nat → Int32) (xl d : Nat) (v4 : Int32) (u5 : Option Value) (u6 : Option Value) (u7 : Option Value) (M : dp_M) : D_L_law_73 xs xl d v4 u5 u6 u7 M = if ((Int32.ofNat xl) - (9 : Int32)) < v4 then (some (.inl (some (.int (1 : Int32))), M)) else (if v4 < 0 ∨ xl ≤ Int32.toNatClampNeg v4 then none else (if ((xs (Int32.toNatClampNeg v4)) &&& (127 : Int32)) = (0 : Int32) then (D_L_law_448 xs xl d v4 u5 u6 u7 M) else if ((xs (Int32.toNatClampNeg v4)) &&& (127 : Int32)) = (1 : Int32) then (D_L_law_580 xs xl d v4 u5 u6 u7 M) else if ((xs (Int32.toNatClampNeg v4)) &&& (127 : Int32)) = (2 : Int32) then (D_L_law_617 xs xl d v4 u5 u6 u7 M) else if ((xs (Int32.toNatClampNeg v4)) &&& (127 : Int32)) = (3 : Int32) then (D_L_law_673 xs xl d v4 u5 u6 u7 M) else if ((xs (Int32.toNatClampNeg v4)) &&& (127 : Int32)) = (4 : Int32) then (D_L_law_753 xs xl d v4 u5 u6 u7 M) else if ((xs (Int32.toNatClampNeg v4)) &&& (127 : Int32)) = (5 : Int32) then (D_L_law_809 xs xl d v4 u5 u6 u7 M) else if ((xs (Int32.toNatClampNeg v4)) &&& (127 : Int32)) = (6 : Int32) then (D_L_law_865 xs xl d v4 u5 u6 u7 M) else if ((xs (Int32.toNatClampNeg v4)) &&& (127 : Int32)) = (7 : Int32) then (D_L_law_933 xs xl d v4 u5 u6 u7 M) else if ((xs (Int32.toNatClampNeg v4)) &&& (127 : Int32)) = (8 : Int32) then (D_L_law_1001 xs xl d v4 u5 u6 u7 M) else if ((xs (Int32.toNatClampNeg v4)) &&& (127 : Int32)) = (9 : Int32) then (D_L_law_1038 xs xl d v4 u5 u6 u7 M) else if ((xs (Int32.toNatClampNeg v4)) &&& (127 : Int32)) = (10 : Int32) then (D_L_law_1075 xs xl d v4 u5 u6 u7 M) else if ((xs (Int32.toNatClampNeg v4)) &&& (127 : Int32)) = (11 : Int32) then (D_L_law_1143 xs xl d v4 u5 u6 u7 M) else if ((xs (Int32.toNatClampNeg v4)) &&& (127 : Int32)) = (12 : Int32) then (D_L_law_1199 xs xl d v4 u5 u6 u7 M) else if ((xs (Int32.toNatClampNeg v4)) &&& (127 : Int32)) = (13 : Int32) then (D_L_law_1267 xs xl d v4 u5 u6 u7 M) else if ((xs (Int32.toNatClampNeg v4)) &&& (127 : Int32)) = (14 : Int32) then (D_L_law_1323 xs xl d v4 u5 u6 u7 M) else if ((xs (Int32.toNatClampNeg v4)) &&& (127 : Int32)) = (15 : Int32) then (D_L_law_1379 xs xl d v4 u5 u6 u7 M) else if ((xs (Int32.toNatClampNeg v4)) &&& (127 : Int32)) = (16 : Int32) then (D_L_law_1392 xs xl d v4 u5 u6 u7 M) else if ((xs (Int32.toNatClampNeg v4)) &&& (127 : Int32)) = (17 : Int32) then (D_L_law_1460 xs xl d v4 u5 u6 u7 M) else if ((xs (Int32.toNatClampNeg v4)) &&& (127 : Int32)) = (18 : Int32) then (D_L_law_1528 xs xl d v4 u5 u6 u7 M) else if ((xs (Int32.toNatClampNeg v4)) &&& (127 : Int32)) = (19 : Int32) then (D_L_law_1596 xs xl d v4 u5 u6 u7 M) else if ((xs (Int32.toNatClampNeg v4)) &&& (127 : Int32)) = (20 : Int32) then (D_L_law_1688 xs xl d v4 u5 u6 u7 M) else if ((xs (Int32.toNatClampNeg v4)) &&& (127 : Int32)) = (21 : Int32) then (D_L_law_1780 xs xl d v4 u5 u6 u7 M) else if ((xs (Int32.toNatClampNeg v4)) &&& (127 : Int32)) = (22 : Int32) then (D_L_law_1848 xs xl d v4 u5 u6 u7 M) else if ((xs (Int32.toNatClampNeg v4)) &&& (127 : Int32)) = (23 : Int32) then (D_L_law_1897 xs xl d v4 u5 u6 u7 M) else if ((xs (Int32.toNatClampNeg v4)) &&& (127 : Int32)) = (24 : Int32) then (D_L_law_1953 xs xl d v4 u5 u6 u7 M) else if ((xs (Int32.toNatClampNeg v4)) &&& (127 : Int32)) = (25 : Int32) then (D_L_law_2021 xs xl d v4 u5 u6 u7 M) else if ((xs (Int32.toNatClampNeg v4)) &&& (127 : Int32)) = (26 : Int32) then (D_L_law_2089 xs xl d v4 u5 u6 u7 M) else if ((xs (Int32.toNatClampNeg v4)) &&& (127 : Int32)) = (27 : Int32) then (D_L_law_2145 xs xl d v4 u5 u6 u7 M) else if ((xs (Int32.toNatClampNeg v4)) &&& (127 : Int32)) = (28 : Int32) then (D_L_law_2201 xs xl d v4 u5 u6 u7 M) else if ((xs (Int32.toNatClampNeg v4)) &&& (127 : Int32)) = (29 : Int32) then (D_L_law_2266 xs xl d v4 u5 u6 u7 M) else if ((xs (Int32.toNatClampNeg v4)) &&& (127 : Int32)) = (30 : Int32) then (D_L_law_2291 xs xl d v4 u5 u6 u7 M) else if ((xs (Int32.toNatClampNeg v4)) &&& (127 : Int32)) = (31 : Int32) then (D_L_law_2359 xs xl d v4 u5 u6 u7 M) else if ((xs (Int32.toNatClampNeg v4)) &&& (127 : Int32)) = (32 : Int32) then (D_L_law_2396 xs xl d v4 u5 u6 u7 M) else if ((xs (Int32.toNatClampNeg v4)) &&& (127 : Int32)) = (33 : Int32) then (D_L_law_2528 xs xl d v4 u5 u6 u7 M) else if ((xs (Int32.toNatClampNeg v4)) &&& (127 : Int32)) = (34 : Int32) then (D_L_law_2565 xs xl d v4 u5 u6 u7 M) else if ((xs (Int32.toNatClampNeg v4)) &&& (127 : Int32)) = (35 : Int32) then (D_L_law_2602 xs xl d v4 u5 u6 u7 M) else if ((xs (Int32.toNatClampNeg v4)) &&& (127 : Int32)) = (36 : Int32) then (D_L_law_2682 xs xl d v4 u5 u6 u7 M) else if ((xs (Int32.toNatClampNeg v4)) &&& (127 : Int32)) = (37 : Int32) then (D_L_law_2705 xs xl d v4 u5 u6 u7 M) else if ((xs (Int32.toNatClampNeg v4)) &&& (127 : Int32)) = (38 : Int32) then (D_L_law_2797 xs xl d v4 u5 u6 u7 M) else if ((xs (Int32.toNatClampNeg v4)) &&& (127 : Int32)) = (39 : Int32) then (D_L_law_2822 xs xl d v4 u5 u6 u7 M) else if ((xs (Int32.toNatClampNeg v4)) &&& (127 : Int32)) = (40 : Int32) then (D_L_law_2891 xs xl d v4 u5 u6 u7 M) else if ((xs (Int32.toNatClampNeg v4)) &&& (127 : Int32)) = (41 : Int32) then (D_L_law_2947 xs xl d v4 u5 u6 u7 M) else if ((xs (Int32.toNatClampNeg v4)) &&& (127 : Int32)) = (42 : Int32) then (D_L_law_3027 xs xl d v4 u5 u6 u7 M) else if ((xs (Int32.toNatClampNeg v4)) &&& (127 : Int32)) = (43 : Int32) then (D_L_law_3083 xs xl d v4 u5 u6 u7 M) else if ((xs (Int32.toNatClampNeg v4)) &&& (127 : Int32)) = (44 : Int32) then (D_L_law_3139 xs xl d v4 u5 u6 u7 M) else if ((xs (Int32.toNatClampNeg v4)) &&& (127 : Int32)) = (45 : Int32) then (D_L_law_3296 xs xl d v4 u5 u6 u7 M) else if ((xs (Int32.toNatClampNeg v4)) &&& (127 : Int32)) = (46 : Int32) then (D_L_law_3408 xs xl d v4 u5 u6 u7 M) else if ((xs (Int32.toNatClampNeg v4)) &&& (127 : Int32)) = (47 : Int32) then (D_L_law_3476 xs xl d v4 u5 u6 u7 M) else if ((xs (Int32.toNatClampNeg v4)) &&& (127 : Int32)) = (48 : Int32) then (D_L_law_3579 xs xl d v4 u5 u6 u7 M) else if ((xs (Int32.toNatClampNeg v4)) &&& (127 : Int32)) = (49 : Int32) then (D_L_law_3698 xs xl d v4 u5 u6 u7 M) else if ((xs (Int32.toNatClampNeg v4)) &&& (127 : Int32)) = (50 : Int32) then (D_L_law_3765 xs xl d v4 u5 u6 u7 M) else if ((xs (Int32.toNatClampNeg v4)) &&& (127 : Int32)) = (51 : Int32) then (D_L_law_3832 xs xl d v4 u5 u6 u7 M) else if ((xs (Int32.toNatClampNeg v4)) &&& (127 : Int32)) = (52 : Int32) then (D_L_law_4000 xs xl d v4 u5 u6 u7 M) else if ((xs (Int32.toNatClampNeg v4)) &&& (127 : Int32)) = (53 : Int32) then (D_L_law_4025 xs xl d v4 u5 u6 u7 M) else if ((xs (Int32.toNatClampNeg v4)) &&& (127 : Int32)) = (54 : Int32) then (D_L_law_4050 xs xl d v4 u5 u6 u7 M) else if ((xs (Int32.toNatClampNeg v4)) &&& (127 : Int32)) = (55 : Int32) then (D_L_law_4103 xs xl d v4 u5 u6 u7 M) else if ((xs (Int32.toNatClampNeg v4)) &&& (127 : Int32)) = (56 : Int32) then (D_L_law_4128 xs xl d v4 u5 u6 u7 M) else if ((xs (Int32.toNatClampNeg v4)) &&& (127 : Int32)) = (57 : Int32) then (D_L_law_4183 xs xl d v4 u5 u6 u7 M) else if ((xs (Int32.toNatClampNeg v4)) &&& (127 : Int32)) = (58 : Int32) then (D_L_law_4209 xs xl d v4 u5 u6 u7 M) else if ((xs (Int32.toNatClampNeg v4)) &&& (127 : Int32)) = (59 : Int32) then (D_L_law_4246 xs xl d v4 u5 u6 u7 M) else if ((xs (Int32.toNatClampNeg v4)) &&& (127 : Int32)) = (60 : Int32) then (D_L_law_4313 xs xl d v4 u5 u6 u7 M) else if ((xs (Int32.toNatClampNeg v4)) &&& (127 : Int32)) = (61 : Int32) then (D_L_law_4380 xs xl d v4 u5 u6 u7 M) else if ((xs (Int32.toNatClampNeg v4)) &&& (127 : Int32)) = (62 : Int32) then (D_L_law_4448 xs xl d v4 u5 u6 u7 M) else if ((xs (Int32.toNatClampNeg v4)) &&& (127 : Int32)) = (63 : Int32) then (D_L_law_4529 xs xl d v4 u5 u6 u7 M) else if ((xs (Int32.toNatClampNeg v4)) &&& (127 : Int32)) = (64 : Int32) then (D_L_law_4582 xs xl d v4 u5 u6 u7 M) else if ((xs (Int32.toNatClampNeg v4)) &&& (127 : Int32)) = (65 : Int32) then (D_L_law_4638 xs xl d v4 u5 u6 u7 M) else if ((xs (Int32.toNatClampNeg v4)) &&& (127 : Int32)) = (66 : Int32) then (D_L_law_4706 xs xl d v4 u5 u6 u7 M) else if ((xs (Int32.toNatClampNeg v4)) &&& (127 : Int32)) = (67 : Int32) then (D_L_law_4731 xs xl d v4 u5 u6 u7 M) else if ((xs (Int32.toNatClampNeg v4)) &&& (127 : Int32)) = (68 : Int32) then (D_L_law_4810 xs xl d v4 u5 u6 u7 M) else if ((xs (Int32.toNatClampNeg v4)) &&& (127 : Int32)) = (69 : Int32) then (D_L_law_4889 xs xl d v4 u5 u6 u7 M) else if ((xs (Int32.toNatClampNeg v4)) &&& (127 : Int32)) = (70 : Int32) then (D_L_law_4938 xs xl d v4 u5 u6 u7 M) else if ((xs (Int32.toNatClampNeg v4)) &&& (127 : Int32)) = (71 : Int32) then (D_L_law_4975 xs xl d v4 u5 u6 u7 M) else if ((xs (Int32.toNatClampNeg v4)) &&& (127 : Int32)) = (72 : Int32) then (D_L_law_5054 xs xl d v4 u5 u6 u7 M) else if ((xs (Int32.toNatClampNeg v4)) &&& (127 : Int32)) = (73 : Int32) then (D_L_law_5121 xs xl d v4 u5 u6 u7 M) else if ((xs (Int32.toNatClampNeg v4)) &&& (127 : Int32)) = (74 : Int32) then (D_L_law_5189 xs xl d v4 u5 u6 u7 M) else if ((xs (Int32.toNatClampNeg v4)) &&& (127 : Int32)) = (75 : Int32) then (D_L_law_5355 xs xl d v4 u5 u6 u7 M) else if ((xs (Int32.toNatClampNeg v4)) &&& (127 : Int32)) = (76 : Int32) then (D_L_law_5436 xs xl d v4 u5 u6 u7 M) else if ((xs (Int32.toNatClampNeg v4)) &&& (127 : Int32)) = (77 : Int32) then (D_L_law_5548 xs xl d v4 u5 u6 u7 M) else if ((xs (Int32.toNatClampNeg v4)) &&& (127 : Int32)) = (78 : Int32) then (D_L_law_5648 xs xl d v4 u5 u6 u7 M) else if ((xs (Int32.toNatClampNeg v4)) &&& (127 : Int32)) = (79 : Int32) then (D_L_law_5715 xs xl d v4 u5 u6 u7 M) else if ((xs (Int32.toNatClampNeg v4)) &&& (127 : Int32)) = (80 : Int32) then (D_L_law_5782 xs xl d v4 u5 u6 u7 M) else if ((xs (Int32.toNatClampNeg v4)) &&& (127 : Int32)) = (81 : Int32) then (D_L_law_5850 xs xl d v4 u5 u6 u7 M) else if ((xs (Int32.toNatClampNeg v4)) &&& (127 : Int32)) = (82 : Int32) then (D_L_law_5917 xs xl d v4 u5 u6 u7 M) else if ((xs (Int32.toNatClampNeg v4)) &&& (127 : Int32)) = (83 : Int32) then (D_L_law_5984 xs xl d v4 u5 u6 u7 M) else if ((xs (Int32.toNatClampNeg v4)) &&& (127 : Int32)) = (84 : Int32) then (D_L_law_6040 xs xl d v4 u5 u6 u7 M) else if ((xs (Int32.toNatClampNeg v4)) &&& (127 : Int32)) = (85 : Int32) then (D_L_law_6107 xs xl d v4 u5 u6 u7 M) else (D_L_law_6132 xs xl d v4 u5 u6 u7 M))) := by
  have hF := dp_den_grow (md := true) (xs := xs) (xl := xl) d
  unfold D_L_law_73
  refine dp_s1 hF (i := .iload 4) rfl (fun _ => rfl) ?_
  refine dp_s1 hF (i := .aload_n 0) rfl (fun _ => rfl) ?_
  refine dp_s1 hF (i := .arraylength) rfl (fun _ => rfl) ?_
  refine dp_s1 hF (i := .bipush 9) rfl (fun _ => rfl) ?_
  refine dp_s1 hF (i := .isub) rfl (fun _ => rfl) ?_
  refine dp_s2 hF (i := .if_icmp .gt 6058) (a := (6138, [some (.retAddr 0), some (.ref 0), some (.ref 114), some (.ref 245), some (.int v4), u5, u6, u7], [], M)) (b := (83, [some (.retAddr 0), some (.ref 0), some (.ref 114), some (.ref 245), some (.int v4), u5, u6, u7], [], M)) rfl (fun _ => rfl) ?_ ?_
  · refine dp_s1 hF (i := .iconst 1) rfl (fun _ => rfl) ?_
    exact dp_s0 hF (i := .ireturn) rfl (fun _ => rfl)
  refine dp_s1 hF (i := .aload_n 0) rfl (fun _ => rfl) ?_
  refine dp_s1 hF (i := .iload 4) rfl (fun _ => rfl) ?_
  refine dp_s3 hF (i := .iaload) rfl (fun _ => rfl) ?_
  refine dp_s1 hF (i := .bipush 127) rfl (fun _ => rfl) ?_
  refine dp_s1 hF (i := .iand) rfl (fun _ => rfl) ?_
  refine (dp_s (E := fun k => if ((xs (Int32.toNatClampNeg v4)) &&& (127 : Int32)) = (0 : Int32) then k (448, [some (.retAddr 0), some (.ref 0), some (.ref 114), some (.ref 245), some (.int v4), u5, u6, u7], [], M) else if ((xs (Int32.toNatClampNeg v4)) &&& (127 : Int32)) = (1 : Int32) then k (580, [some (.retAddr 0), some (.ref 0), some (.ref 114), some (.ref 245), some (.int v4), u5, u6, u7], [], M) else if ((xs (Int32.toNatClampNeg v4)) &&& (127 : Int32)) = (2 : Int32) then k (617, [some (.retAddr 0), some (.ref 0), some (.ref 114), some (.ref 245), some (.int v4), u5, u6, u7], [], M) else if ((xs (Int32.toNatClampNeg v4)) &&& (127 : Int32)) = (3 : Int32) then k (673, [some (.retAddr 0), some (.ref 0), some (.ref 114), some (.ref 245), some (.int v4), u5, u6, u7], [], M) else if ((xs (Int32.toNatClampNeg v4)) &&& (127 : Int32)) = (4 : Int32) then k (753, [some (.retAddr 0), some (.ref 0), some (.ref 114), some (.ref 245), some (.int v4), u5, u6, u7], [], M) else if ((xs (Int32.toNatClampNeg v4)) &&& (127 : Int32)) = (5 : Int32) then k (809, [some (.retAddr 0), some (.ref 0), some (.ref 114), some (.ref 245), some (.int v4), u5, u6, u7], [], M) else if ((xs (Int32.toNatClampNeg v4)) &&& (127 : Int32)) = (6 : Int32) then k (865, [some (.retAddr 0), some (.ref 0), some (.ref 114), some (.ref 245), some (.int v4), u5, u6, u7], [], M) else if ((xs (Int32.toNatClampNeg v4)) &&& (127 : Int32)) = (7 : Int32) then k (933, [some (.retAddr 0), some (.ref 0), some (.ref 114), some (.ref 245), some (.int v4), u5, u6, u7], [], M) else if ((xs (Int32.toNatClampNeg v4)) &&& (127 : Int32)) = (8 : Int32) then k (1001, [some (.retAddr 0), some (.ref 0), some (.ref 114), some (.ref 245), some (.int v4), u5, u6, u7], [], M) else if ((xs (Int32.toNatClampNeg v4)) &&& (127 : Int32)) = (9 : Int32) then k (1038, [some (.retAddr 0), some (.ref 0), some (.ref 114), some (.ref 245), some (.int v4), u5, u6, u7], [], M) else if ((xs (Int32.toNatClampNeg v4)) &&& (127 : Int32)) = (10 : Int32) then k (1075, [some (.retAddr 0), some (.ref 0), some (.ref 114), some (.ref 245), some (.int v4), u5, u6, u7], [], M) else if ((xs (Int32.toNatClampNeg v4)) &&& (127 : Int32)) = (11 : Int32) then k (1143, [some (.retAddr 0), some (.ref 0), some (.ref 114), some (.ref 245), some (.int v4), u5, u6, u7], [], M) else if ((xs (Int32.toNatClampNeg v4)) &&& (127 : Int32)) = (12 : Int32) then k (1199, [some (.retAddr 0), some (.ref 0), some (.ref 114), some (.ref 245), some (.int v4), u5, u6, u7], [], M) else if ((xs (Int32.toNatClampNeg v4)) &&& (127 : Int32)) = (13 : Int32) then k (1267, [some (.retAddr 0), some (.ref 0), some (.ref 114), some (.ref 245), some (.int v4), u5, u6, u7], [], M) else if ((xs (Int32.toNatClampNeg v4)) &&& (127 : Int32)) = (14 : Int32) then k (1323, [some (.retAddr 0), some (.ref 0), some (.ref 114), some (.ref 245), some (.int v4), u5, u6, u7], [], M) else if ((xs (Int32.toNatClampNeg v4)) &&& (127 : Int32)) = (15 : Int32) then k (1379, [some (.retAddr 0), some (.ref 0), some (.ref 114), some (.ref 245), some (.int v4), u5, u6, u7], [], M) else if ((xs (Int32.toNatClampNeg v4)) &&& (127 : Int32)) = (16 : Int32) then k (1392, [some (.retAddr 0), some (.ref 0), some (.ref 114), some (.ref 245), some (.int v4), u5, u6, u7], [], M) else if ((xs (Int32.toNatClampNeg v4)) &&& (127 : Int32)) = (17 : Int32) then k (1460, [some (.retAddr 0), some (.ref 0), some (.ref 114), some (.ref 245), some (.int v4), u5, u6, u7], [], M) else if ((xs (Int32.toNatClampNeg v4)) &&& (127 : Int32)) = (18 : Int32) then k (1528, [some (.retAddr 0), some (.ref 0), some (.ref 114), some (.ref 245), some (.int v4), u5, u6, u7], [], M) else if ((xs (Int32.toNatClampNeg v4)) &&& (127 : Int32)) = (19 : Int32) then k (1596, [some (.retAddr 0), some (.ref 0), some (.ref 114), some (.ref 245), some (.int v4), u5, u6, u7], [], M) else if ((xs (Int32.toNatClampNeg v4)) &&& (127 : Int32)) = (20 : Int32) then k (1688, [some (.retAddr 0), some (.ref 0), some (.ref 114), some (.ref 245), some (.int v4), u5, u6, u7], [], M) else if ((xs (Int32.toNatClampNeg v4)) &&& (127 : Int32)) = (21 : Int32) then k (1780, [some (.retAddr 0), some (.ref 0), some (.ref 114), some (.ref 245), some (.int v4), u5, u6, u7], [], M) else if ((xs (Int32.toNatClampNeg v4)) &&& (127 : Int32)) = (22 : Int32) then k (1848, [some (.retAddr 0), some (.ref 0), some (.ref 114), some (.ref 245), some (.int v4), u5, u6, u7], [], M) else if ((xs (Int32.toNatClampNeg v4)) &&& (127 : Int32)) = (23 : Int32) then k (1897, [some (.retAddr 0), some (.ref 0), some (.ref 114), some (.ref 245), some (.int v4), u5, u6, u7], [], M) else if ((xs (Int32.toNatClampNeg v4)) &&& (127 : Int32)) = (24 : Int32) then k (1953, [some (.retAddr 0), some (.ref 0), some (.ref 114), some (.ref 245), some (.int v4), u5, u6, u7], [], M) else if ((xs (Int32.toNatClampNeg v4)) &&& (127 : Int32)) = (25 : Int32) then k (2021, [some (.retAddr 0), some (.ref 0), some (.ref 114), some (.ref 245), some (.int v4), u5, u6, u7], [], M) else if ((xs (Int32.toNatClampNeg v4)) &&& (127 : Int32)) = (26 : Int32) then k (2089, [some (.retAddr 0), some (.ref 0), some (.ref 114), some (.ref 245), some (.int v4), u5, u6, u7], [], M) else if ((xs (Int32.toNatClampNeg v4)) &&& (127 : Int32)) = (27 : Int32) then k (2145, [some (.retAddr 0), some (.ref 0), some (.ref 114), some (.ref 245), some (.int v4), u5, u6, u7], [], M) else if ((xs (Int32.toNatClampNeg v4)) &&& (127 : Int32)) = (28 : Int32) then k (2201, [some (.retAddr 0), some (.ref 0), some (.ref 114), some (.ref 245), some (.int v4), u5, u6, u7], [], M) else if ((xs (Int32.toNatClampNeg v4)) &&& (127 : Int32)) = (29 : Int32) then k (2266, [some (.retAddr 0), some (.ref 0), some (.ref 114), some (.ref 245), some (.int v4), u5, u6, u7], [], M) else if ((xs (Int32.toNatClampNeg v4)) &&& (127 : Int32)) = (30 : Int32) then k (2291, [some (.retAddr 0), some (.ref 0), some (.ref 114), some (.ref 245), some (.int v4), u5, u6, u7], [], M) else if ((xs (Int32.toNatClampNeg v4)) &&& (127 : Int32)) = (31 : Int32) then k (2359, [some (.retAddr 0), some (.ref 0), some (.ref 114), some (.ref 245), some (.int v4), u5, u6, u7], [], M) else if ((xs (Int32.toNatClampNeg v4)) &&& (127 : Int32)) = (32 : Int32) then k (2396, [some (.retAddr 0), some (.ref 0), some (.ref 114), some (.ref 245), some (.int v4), u5, u6, u7], [], M) else if ((xs (Int32.toNatClampNeg v4)) &&& (127 : Int32)) = (33 : Int32) then k (2528, [some (.retAddr 0), some (.ref 0), some (.ref 114), some (.ref 245), some (.int v4), u5, u6, u7], [], M) else if ((xs (Int32.toNatClampNeg v4)) &&& (127 : Int32)) = (34 : Int32) then k (2565, [some (.retAddr 0), some (.ref 0), some (.ref 114), some (.ref 245), some (.int v4), u5, u6, u7], [], M) else if ((xs (Int32.toNatClampNeg v4)) &&& (127 : Int32)) = (35 : Int32) then k (2602, [some (.retAddr 0), some (.ref 0), some (.ref 114), some (.ref 245), some (.int v4), u5, u6, u7], [], M) else if ((xs (Int32.toNatClampNeg v4)) &&& (127 : Int32)) = (36 : Int32) then k (2682, [some (.retAddr 0), some (.ref 0), some (.ref 114), some (.ref 245), some (.int v4), u5, u6, u7], [], M) else if ((xs (Int32.toNatClampNeg v4)) &&& (127 : Int32)) = (37 : Int32) then k (2705, [some (.retAddr 0), some (.ref 0), some (.ref 114), some (.ref 245), some (.int v4), u5, u6, u7], [], M) else if ((xs (Int32.toNatClampNeg v4)) &&& (127 : Int32)) = (38 : Int32) then k (2797, [some (.retAddr 0), some (.ref 0), some (.ref 114), some (.ref 245), some (.int v4), u5, u6, u7], [], M) else if ((xs (Int32.toNatClampNeg v4)) &&& (127 : Int32)) = (39 : Int32) then k (2822, [some (.retAddr 0), some (.ref 0), some (.ref 114), some (.ref 245), some (.int v4), u5, u6, u7], [], M) else if ((xs (Int32.toNatClampNeg v4)) &&& (127 : Int32)) = (40 : Int32) then k (2891, [some (.retAddr 0), some (.ref 0), some (.ref 114), some (.ref 245), some (.int v4), u5, u6, u7], [], M) else if ((xs (Int32.toNatClampNeg v4)) &&& (127 : Int32)) = (41 : Int32) then k (2947, [some (.retAddr 0), some (.ref 0), some (.ref 114), some (.ref 245), some (.int v4), u5, u6, u7], [], M) else if ((xs (Int32.toNatClampNeg v4)) &&& (127 : Int32)) = (42 : Int32) then k (3027, [some (.retAddr 0), some (.ref 0), some (.ref 114), some (.ref 245), some (.int v4), u5, u6, u7], [], M) else if ((xs (Int32.toNatClampNeg v4)) &&& (127 : Int32)) = (43 : Int32) then k (3083, [some (.retAddr 0), some (.ref 0), some (.ref 114), some (.ref 245), some (.int v4), u5, u6, u7], [], M) else if ((xs (Int32.toNatClampNeg v4)) &&& (127 : Int32)) = (44 : Int32) then k (3139, [some (.retAddr 0), some (.ref 0), some (.ref 114), some (.ref 245), some (.int v4), u5, u6, u7], [], M) else if ((xs (Int32.toNatClampNeg v4)) &&& (127 : Int32)) = (45 : Int32) then k (3296, [some (.retAddr 0), some (.ref 0), some (.ref 114), some (.ref 245), some (.int v4), u5, u6, u7], [], M) else if ((xs (Int32.toNatClampNeg v4)) &&& (127 : Int32)) = (46 : Int32) then k (3408, [some (.retAddr 0), some (.ref 0), some (.ref 114), some (.ref 245), some (.int v4), u5, u6, u7], [], M) else if ((xs (Int32.toNatClampNeg v4)) &&& (127 : Int32)) = (47 : Int32) then k (3476, [some (.retAddr 0), some (.ref 0), some (.ref 114), some (.ref 245), some (.int v4), u5, u6, u7], [], M) else if ((xs (Int32.toNatClampNeg v4)) &&& (127 : Int32)) = (48 : Int32) then k (3579, [some (.retAddr 0), some (.ref 0), some (.ref 114), some (.ref 245), some (.int v4), u5, u6, u7], [], M) else if ((xs (Int32.toNatClampNeg v4)) &&& (127 : Int32)) = (49 : Int32) then k (3698, [some (.retAddr 0), some (.ref 0), some (.ref 114), some (.ref 245), some (.int v4), u5, u6, u7], [], M) else if ((xs (Int32.toNatClampNeg v4)) &&& (127 : Int32)) = (50 : Int32) then k (3765, [some (.retAddr 0), some (.ref 0), some (.ref 114), some (.ref 245), some (.int v4), u5, u6, u7], [], M) else if ((xs (Int32.toNatClampNeg v4)) &&& (127 : Int32)) = (51 : Int32) then k (3832, [some (.retAddr 0), some (.ref 0), some (.ref 114), some (.ref 245), some (.int v4), u5, u6, u7], [], M) else if ((xs (Int32.toNatClampNeg v4)) &&& (127 : Int32)) = (52 : Int32) then k (4000, [some (.retAddr 0), some (.ref 0), some (.ref 114), some (.ref 245), some (.int v4), u5, u6, u7], [], M) else if ((xs (Int32.toNatClampNeg v4)) &&& (127 : Int32)) = (53 : Int32) then k (4025, [some (.retAddr 0), some (.ref 0), some (.ref 114), some (.ref 245), some (.int v4), u5, u6, u7], [], M) else if ((xs (Int32.toNatClampNeg v4)) &&& (127 : Int32)) = (54 : Int32) then k (4050, [some (.retAddr 0), some (.ref 0), some (.ref 114), some (.ref 245), some (.int v4), u5, u6, u7], [], M) else if ((xs (Int32.toNatClampNeg v4)) &&& (127 : Int32)) = (55 : Int32) then k (4103, [some (.retAddr 0), some (.ref 0), some (.ref 114), some (.ref 245), some (.int v4), u5, u6, u7], [], M) else if ((xs (Int32.toNatClampNeg v4)) &&& (127 : Int32)) = (56 : Int32) then k (4128, [some (.retAddr 0), some (.ref 0), some (.ref 114), some (.ref 245), some (.int v4), u5, u6, u7], [], M) else if ((xs (Int32.toNatClampNeg v4)) &&& (127 : Int32)) = (57 : Int32) then k (4183, [some (.retAddr 0), some (.ref 0), some (.ref 114), some (.ref 245), some (.int v4), u5, u6, u7], [], M) else if ((xs (Int32.toNatClampNeg v4)) &&& (127 : Int32)) = (58 : Int32) then k (4209, [some (.retAddr 0), some (.ref 0), some (.ref 114), some (.ref 245), some (.int v4), u5, u6, u7], [], M) else if ((xs (Int32.toNatClampNeg v4)) &&& (127 : Int32)) = (59 : Int32) then k (4246, [some (.retAddr 0), some (.ref 0), some (.ref 114), some (.ref 245), some (.int v4), u5, u6, u7], [], M) else if ((xs (Int32.toNatClampNeg v4)) &&& (127 : Int32)) = (60 : Int32) then k (4313, [some (.retAddr 0), some (.ref 0), some (.ref 114), some (.ref 245), some (.int v4), u5, u6, u7], [], M) else if ((xs (Int32.toNatClampNeg v4)) &&& (127 : Int32)) = (61 : Int32) then k (4380, [some (.retAddr 0), some (.ref 0), some (.ref 114), some (.ref 245), some (.int v4), u5, u6, u7], [], M) else if ((xs (Int32.toNatClampNeg v4)) &&& (127 : Int32)) = (62 : Int32) then k (4448, [some (.retAddr 0), some (.ref 0), some (.ref 114), some (.ref 245), some (.int v4), u5, u6, u7], [], M) else if ((xs (Int32.toNatClampNeg v4)) &&& (127 : Int32)) = (63 : Int32) then k (4529, [some (.retAddr 0), some (.ref 0), some (.ref 114), some (.ref 245), some (.int v4), u5, u6, u7], [], M) else if ((xs (Int32.toNatClampNeg v4)) &&& (127 : Int32)) = (64 : Int32) then k (4582, [some (.retAddr 0), some (.ref 0), some (.ref 114), some (.ref 245), some (.int v4), u5, u6, u7], [], M) else if ((xs (Int32.toNatClampNeg v4)) &&& (127 : Int32)) = (65 : Int32) then k (4638, [some (.retAddr 0), some (.ref 0), some (.ref 114), some (.ref 245), some (.int v4), u5, u6, u7], [], M) else if ((xs (Int32.toNatClampNeg v4)) &&& (127 : Int32)) = (66 : Int32) then k (4706, [some (.retAddr 0), some (.ref 0), some (.ref 114), some (.ref 245), some (.int v4), u5, u6, u7], [], M) else if ((xs (Int32.toNatClampNeg v4)) &&& (127 : Int32)) = (67 : Int32) then k (4731, [some (.retAddr 0), some (.ref 0), some (.ref 114), some (.ref 245), some (.int v4), u5, u6, u7], [], M) else if ((xs (Int32.toNatClampNeg v4)) &&& (127 : Int32)) = (68 : Int32) then k (4810, [some (.retAddr 0), some (.ref 0), some (.ref 114), some (.ref 245), some (.int v4), u5, u6, u7], [], M) else if ((xs (Int32.toNatClampNeg v4)) &&& (127 : Int32)) = (69 : Int32) then k (4889, [some (.retAddr 0), some (.ref 0), some (.ref 114), some (.ref 245), some (.int v4), u5, u6, u7], [], M) else if ((xs (Int32.toNatClampNeg v4)) &&& (127 : Int32)) = (70 : Int32) then k (4938, [some (.retAddr 0), some (.ref 0), some (.ref 114), some (.ref 245), some (.int v4), u5, u6, u7], [], M) else if ((xs (Int32.toNatClampNeg v4)) &&& (127 : Int32)) = (71 : Int32) then k (4975, [some (.retAddr 0), some (.ref 0), some (.ref 114), some (.ref 245), some (.int v4), u5, u6, u7], [], M) else if ((xs (Int32.toNatClampNeg v4)) &&& (127 : Int32)) = (72 : Int32) then k (5054, [some (.retAddr 0), some (.ref 0), some (.ref 114), some (.ref 245), some (.int v4), u5, u6, u7], [], M) else if ((xs (Int32.toNatClampNeg v4)) &&& (127 : Int32)) = (73 : Int32) then k (5121, [some (.retAddr 0), some (.ref 0), some (.ref 114), some (.ref 245), some (.int v4), u5, u6, u7], [], M) else if ((xs (Int32.toNatClampNeg v4)) &&& (127 : Int32)) = (74 : Int32) then k (5189, [some (.retAddr 0), some (.ref 0), some (.ref 114), some (.ref 245), some (.int v4), u5, u6, u7], [], M) else if ((xs (Int32.toNatClampNeg v4)) &&& (127 : Int32)) = (75 : Int32) then k (5355, [some (.retAddr 0), some (.ref 0), some (.ref 114), some (.ref 245), some (.int v4), u5, u6, u7], [], M) else if ((xs (Int32.toNatClampNeg v4)) &&& (127 : Int32)) = (76 : Int32) then k (5436, [some (.retAddr 0), some (.ref 0), some (.ref 114), some (.ref 245), some (.int v4), u5, u6, u7], [], M) else if ((xs (Int32.toNatClampNeg v4)) &&& (127 : Int32)) = (77 : Int32) then k (5548, [some (.retAddr 0), some (.ref 0), some (.ref 114), some (.ref 245), some (.int v4), u5, u6, u7], [], M) else if ((xs (Int32.toNatClampNeg v4)) &&& (127 : Int32)) = (78 : Int32) then k (5648, [some (.retAddr 0), some (.ref 0), some (.ref 114), some (.ref 245), some (.int v4), u5, u6, u7], [], M) else if ((xs (Int32.toNatClampNeg v4)) &&& (127 : Int32)) = (79 : Int32) then k (5715, [some (.retAddr 0), some (.ref 0), some (.ref 114), some (.ref 245), some (.int v4), u5, u6, u7], [], M) else if ((xs (Int32.toNatClampNeg v4)) &&& (127 : Int32)) = (80 : Int32) then k (5782, [some (.retAddr 0), some (.ref 0), some (.ref 114), some (.ref 245), some (.int v4), u5, u6, u7], [], M) else if ((xs (Int32.toNatClampNeg v4)) &&& (127 : Int32)) = (81 : Int32) then k (5850, [some (.retAddr 0), some (.ref 0), some (.ref 114), some (.ref 245), some (.int v4), u5, u6, u7], [], M) else if ((xs (Int32.toNatClampNeg v4)) &&& (127 : Int32)) = (82 : Int32) then k (5917, [some (.retAddr 0), some (.ref 0), some (.ref 114), some (.ref 245), some (.int v4), u5, u6, u7], [], M) else if ((xs (Int32.toNatClampNeg v4)) &&& (127 : Int32)) = (83 : Int32) then k (5984, [some (.retAddr 0), some (.ref 0), some (.ref 114), some (.ref 245), some (.int v4), u5, u6, u7], [], M) else if ((xs (Int32.toNatClampNeg v4)) &&& (127 : Int32)) = (84 : Int32) then k (6040, [some (.retAddr 0), some (.ref 0), some (.ref 114), some (.ref 245), some (.int v4), u5, u6, u7], [], M) else if ((xs (Int32.toNatClampNeg v4)) &&& (127 : Int32)) = (85 : Int32) then k (6107, [some (.retAddr 0), some (.ref 0), some (.ref 114), some (.ref 245), some (.int v4), u5, u6, u7], [], M) else k (6132, [some (.retAddr 0), some (.ref 0), some (.ref 114), some (.ref 245), some (.int v4), u5, u6, u7], [], M)) hF (i := .tableswitch 6042 0 85 #[358, 490, 527, 583, 663, 719, 775, 843, 911, 948, 985, 1053, 1109, 1177, 1233, 1289, 1302, 1370, 1438, 1506, 1598, 1690, 1758, 1807, 1863, 1931, 1999, 2055, 2111, 2176, 2201, 2269, 2306, 2438, 2475, 2512, 2592, 2615, 2707, 2732, 2801, 2857, 2937, 2993, 3049, 3206, 3318, 3386, 3489, 3608, 3675, 3742, 3910, 3935, 3960, 4013, 4038, 4093, 4119, 4156, 4223, 4290, 4358, 4439, 4492, 4548, 4616, 4641, 4720, 4799, 4848, 4885, 4964, 5031, 5099, 5265, 5346, 5458, 5558, 5625, 5692, 5760, 5827, 5894, 5950, 6017]) rfl (fun _ => rfl)).trans ?_
  refine dp_ifc ?_ ?_
  · exact rfl
  refine dp_ifc ?_ ?_
  · exact rfl
  refine dp_ifc ?_ ?_
  · exact rfl
  refine dp_ifc ?_ ?_
  · exact rfl
  refine dp_ifc ?_ ?_
  · exact rfl
  refine dp_ifc ?_ ?_
  · exact rfl
  refine dp_ifc ?_ ?_
  · exact rfl
  refine dp_ifc ?_ ?_
  · exact rfl
  refine dp_ifc ?_ ?_
  · exact rfl
  refine dp_ifc ?_ ?_
  · exact rfl
  refine dp_ifc ?_ ?_
  · exact rfl
  refine dp_ifc ?_ ?_
  · exact rfl
  refine dp_ifc ?_ ?_
  · exact rfl
  refine dp_ifc ?_ ?_
  · exact rfl
  refine dp_ifc ?_ ?_
  · exact rfl
  refine dp_ifc ?_ ?_
  · exact rfl
  refine dp_ifc ?_ ?_
  · exact rfl
  refine dp_ifc ?_ ?_
  · exact rfl
  refine dp_ifc ?_ ?_
  · exact rfl
  refine dp_ifc ?_ ?_
  · exact rfl
  refine dp_ifc ?_ ?_
  · exact rfl
  refine dp_ifc ?_ ?_
  · exact rfl
  refine dp_ifc ?_ ?_
  · exact rfl
  refine dp_ifc ?_ ?_
  · exact rfl
  refine dp_ifc ?_ ?_
  · exact rfl
  refine dp_ifc ?_ ?_
  · exact rfl
  refine dp_ifc ?_ ?_
  · exact rfl
  refine dp_ifc ?_ ?_
  · exact rfl
  refine dp_ifc ?_ ?_
  · exact rfl
  refine dp_ifc ?_ ?_
  · exact rfl
  refine dp_ifc ?_ ?_
  · exact rfl
  refine dp_ifc ?_ ?_
  · exact rfl
  refine dp_ifc ?_ ?_
  · exact rfl
  refine dp_ifc ?_ ?_
  · exact rfl
  refine dp_ifc ?_ ?_
  · exact rfl
  refine dp_ifc ?_ ?_
  · exact rfl
  refine dp_ifc ?_ ?_
  · exact rfl
  refine dp_ifc ?_ ?_
  · exact rfl
  refine dp_ifc ?_ ?_
  · exact rfl
  refine dp_ifc ?_ ?_
  · exact rfl
  refine dp_ifc ?_ ?_
  · exact rfl
  refine dp_ifc ?_ ?_
  · exact rfl
  refine dp_ifc ?_ ?_
  · exact rfl
  refine dp_ifc ?_ ?_
  · exact rfl
  refine dp_ifc ?_ ?_
  · exact rfl
  refine dp_ifc ?_ ?_
  · exact rfl
  refine dp_ifc ?_ ?_
  · exact rfl
  refine dp_ifc ?_ ?_
  · exact rfl
  refine dp_ifc ?_ ?_
  · exact rfl
  refine dp_ifc ?_ ?_
  · exact rfl
  refine dp_ifc ?_ ?_
  · exact rfl
  refine dp_ifc ?_ ?_
  · exact rfl
  refine dp_ifc ?_ ?_
  · exact rfl
  refine dp_ifc ?_ ?_
  · exact rfl
  refine dp_ifc ?_ ?_
  · exact rfl
  refine dp_ifc ?_ ?_
  · exact rfl
  refine dp_ifc ?_ ?_
  · exact rfl
  refine dp_ifc ?_ ?_
  · exact rfl
  refine dp_ifc ?_ ?_
  · exact rfl
  refine dp_ifc ?_ ?_
  · exact rfl
  refine dp_ifc ?_ ?_
  · exact rfl
  refine dp_ifc ?_ ?_
  · exact rfl
  refine dp_ifc ?_ ?_
  · exact rfl
  refine dp_ifc ?_ ?_
  · exact rfl
  refine dp_ifc ?_ ?_
  · exact rfl
  refine dp_ifc ?_ ?_
  · exact rfl
  refine dp_ifc ?_ ?_
  · exact rfl
  refine dp_ifc ?_ ?_
  · exact rfl
  refine dp_ifc ?_ ?_
  · exact rfl
  refine dp_ifc ?_ ?_
  · exact rfl
  refine dp_ifc ?_ ?_
  · exact rfl
  refine dp_ifc ?_ ?_
  · exact rfl
  refine dp_ifc ?_ ?_
  · exact rfl
  refine dp_ifc ?_ ?_
  · exact rfl
  refine dp_ifc ?_ ?_
  · exact rfl
  refine dp_ifc ?_ ?_
  · exact rfl
  refine dp_ifc ?_ ?_
  · exact rfl
  refine dp_ifc ?_ ?_
  · exact rfl
  refine dp_ifc ?_ ?_
  · exact rfl
  refine dp_ifc ?_ ?_
  · exact rfl
  refine dp_ifc ?_ ?_
  · exact rfl
  refine dp_ifc ?_ ?_
  · exact rfl
  refine dp_ifc ?_ ?_
  · exact rfl
  refine dp_ifc ?_ ?_
  · exact rfl
  refine dp_ifc ?_ ?_
  · exact rfl
  refine dp_ifc ?_ ?_
  · exact rfl
  exact rfl
set_option maxRecDepth 20000 in
theorem D_L_law_6132_eq (xs : Nat → Int32) (xl d : Nat) (v4 : Int32) (u5 : Option Value) (u6 : Option Value) (u7 : Option Value) (M : dp_M) : D_L_law_6132 xs xl d v4 u5 u6 u7 M = dp_w (v4 + (9 : Int32)) (fun y1 => D_L_law_73 xs xl d y1 u5 u6 u7 M) := by
  have hF := dp_den_grow (md := true) (xs := xs) (xl := xl) d
  unfold D_L_law_6132
  refine dp_s1w (v4 + (9 : Int32)) (fun (y1 : Int32) => (6135, [some (.retAddr 0), some (.ref 0), some (.ref 114), some (.ref 245), some (.int y1), u5, u6, u7], [], M)) hF (i := .iinc 4 9) rfl (fun _ => rfl) (fun y1 => ?_)
  refine dp_s1 hF (i := .goto (-6062)) rfl (fun _ => rfl) ?_
  exact rfl
set_option maxRecDepth 20000 in
theorem D_L_law_448_eq (xs : Nat → Int32) (xl d : Nat) (v4 : Int32) (u5 : Option Value) (u6 : Option Value) (u7 : Option Value) (M : dp_M) : D_L_law_448 xs xl d v4 u5 u6 u7 M = if (v4 + (1 : Int32)) < 0 ∨ xl ≤ Int32.toNatClampNeg (v4 + (1 : Int32)) then none else (if (v4 + (2 : Int32)) < 0 ∨ xl ≤ Int32.toNatClampNeg (v4 + (2 : Int32)) then none else (if (v4 + (3 : Int32)) < 0 ∨ xl ≤ Int32.toNatClampNeg (v4 + (3 : Int32)) then none else (if (v4 + (4 : Int32)) < 0 ∨ xl ≤ Int32.toNatClampNeg (v4 + (4 : Int32)) then none else (if (v4 + (5 : Int32)) < 0 ∨ xl ≤ Int32.toNatClampNeg (v4 + (5 : Int32)) then none else (if (v4 + (6 : Int32)) < 0 ∨ xl ≤ Int32.toNatClampNeg (v4 + (6 : Int32)) then none else (if (v4 + (7 : Int32)) < 0 ∨ xl ≤ Int32.toNatClampNeg (v4 + (7 : Int32)) then none else (dp_bi (dp_den true xs xl d 595 [.ref 0, .int (xs (Int32.toNatClampNeg (v4 + (1 : Int32)))), .int (xs (Int32.toNatClampNeg (v4 + (2 : Int32)))), .int (xs (Int32.toNatClampNeg (v4 + (3 : Int32)))), .int (xs (Int32.toNatClampNeg (v4 + (4 : Int32)))), .int (xs (Int32.toNatClampNeg (v4 + (5 : Int32)))), .int (xs (Int32.toNatClampNeg (v4 + (6 : Int32)))), .int (xs (Int32.toNatClampNeg (v4 + (7 : Int32)))), .ref 245] M) (fun r2 M1 => if (v4 + (1 : Int32)) < 0 ∨ xl ≤ Int32.toNatClampNeg (v4 + (1 : Int32)) then none else (if (v4 + (2 : Int32)) < 0 ∨ xl ≤ Int32.toNatClampNeg (v4 + (2 : Int32)) then none else (if (v4 + (3 : Int32)) < 0 ∨ xl ≤ Int32.toNatClampNeg (v4 + (3 : Int32)) then none else (if (v4 + (4 : Int32)) < 0 ∨ xl ≤ Int32.toNatClampNeg (v4 + (4 : Int32)) then none else (if (v4 + (5 : Int32)) < 0 ∨ xl ≤ Int32.toNatClampNeg (v4 + (5 : Int32)) then none else (if (v4 + (6 : Int32)) < 0 ∨ xl ≤ Int32.toNatClampNeg (v4 + (6 : Int32)) then none else (if (v4 + (7 : Int32)) < 0 ∨ xl ≤ Int32.toNatClampNeg (v4 + (7 : Int32)) then none else (dp_bi (dp_den true xs xl d 374 [.ref 114, .int (xs (Int32.toNatClampNeg (v4 + (1 : Int32)))), .int (xs (Int32.toNatClampNeg (v4 + (2 : Int32)))), .int (xs (Int32.toNatClampNeg (v4 + (3 : Int32)))), .int (xs (Int32.toNatClampNeg (v4 + (4 : Int32)))), .int (xs (Int32.toNatClampNeg (v4 + (5 : Int32)))), .int (xs (Int32.toNatClampNeg (v4 + (6 : Int32)))), .int (xs (Int32.toNatClampNeg (v4 + (7 : Int32))))] M1) (fun r4 M3 => dp_bi (dp_den true xs xl d 365 [.ref 114] M3) (fun r6 M5 => if r6 = r2 then (if r2 = 0 then (if (0 : Int32) < 0 ∨ 1 ≤ Int32.toNatClampNeg (0 : Int32) then none else (if (lg_cmp (dp_J M5 245 (Int32.toNatClampNeg (0 : Int32))) (Int32.toInt64 r4)) = 0 then (D_L_law_6132 xs xl d v4 (some (.int r2)) (some (.int r4)) u7 M5) else (some (.inl (some (.int (0 : Int32))), M5)))) else (D_L_law_6132 xs xl d v4 (some (.int r2)) (some (.int r4)) u7 M5)) else (some (.inl (some (.int (0 : Int32))), M5))))))))))))))))))) := by
  have hF := dp_den_grow (md := true) (xs := xs) (xl := xl) d
  unfold D_L_law_448
  refine dp_s1 hF (i := .aload_n 1) rfl (fun _ => rfl) ?_
  refine dp_s1 hF (i := .aload_n 0) rfl (fun _ => rfl) ?_
  refine dp_s1 hF (i := .iload 4) rfl (fun _ => rfl) ?_
  refine dp_s1 hF (i := .iconst 1) rfl (fun _ => rfl) ?_
  refine dp_s1 hF (i := .iadd) rfl (fun _ => rfl) ?_
  refine dp_s3 hF (i := .iaload) rfl (fun _ => rfl) ?_
  refine dp_s1 hF (i := .aload_n 0) rfl (fun _ => rfl) ?_
  refine dp_s1 hF (i := .iload 4) rfl (fun _ => rfl) ?_
  refine dp_s1 hF (i := .iconst 2) rfl (fun _ => rfl) ?_
  refine dp_s1 hF (i := .iadd) rfl (fun _ => rfl) ?_
  refine dp_s3 hF (i := .iaload) rfl (fun _ => rfl) ?_
  refine dp_s1 hF (i := .aload_n 0) rfl (fun _ => rfl) ?_
  refine dp_s1 hF (i := .iload 4) rfl (fun _ => rfl) ?_
  refine dp_s1 hF (i := .iconst 3) rfl (fun _ => rfl) ?_
  refine dp_s1 hF (i := .iadd) rfl (fun _ => rfl) ?_
  refine dp_s3 hF (i := .iaload) rfl (fun _ => rfl) ?_
  refine dp_s1 hF (i := .aload_n 0) rfl (fun _ => rfl) ?_
  refine dp_s1 hF (i := .iload 4) rfl (fun _ => rfl) ?_
  refine dp_s1 hF (i := .iconst 4) rfl (fun _ => rfl) ?_
  refine dp_s1 hF (i := .iadd) rfl (fun _ => rfl) ?_
  refine dp_s3 hF (i := .iaload) rfl (fun _ => rfl) ?_
  refine dp_s1 hF (i := .aload_n 0) rfl (fun _ => rfl) ?_
  refine dp_s1 hF (i := .iload 4) rfl (fun _ => rfl) ?_
  refine dp_s1 hF (i := .iconst 5) rfl (fun _ => rfl) ?_
  refine dp_s1 hF (i := .iadd) rfl (fun _ => rfl) ?_
  refine dp_s3 hF (i := .iaload) rfl (fun _ => rfl) ?_
  refine dp_s1 hF (i := .aload_n 0) rfl (fun _ => rfl) ?_
  refine dp_s1 hF (i := .iload 4) rfl (fun _ => rfl) ?_
  refine dp_s1 hF (i := .bipush 6) rfl (fun _ => rfl) ?_
  refine dp_s1 hF (i := .iadd) rfl (fun _ => rfl) ?_
  refine dp_s3 hF (i := .iaload) rfl (fun _ => rfl) ?_
  refine dp_s1 hF (i := .aload_n 0) rfl (fun _ => rfl) ?_
  refine dp_s1 hF (i := .iload 4) rfl (fun _ => rfl) ?_
  refine dp_s1 hF (i := .bipush 7) rfl (fun _ => rfl) ?_
  refine dp_s1 hF (i := .iadd) rfl (fun _ => rfl) ?_
  refine dp_s3 hF (i := .iaload) rfl (fun _ => rfl) ?_
  refine dp_s1 hF (i := .aload_n 3) rfl (fun _ => rfl) ?_
  refine dp_si (mj := dp_m_L_box) (i := .invokestatic 225) rfl rfl (Or.inl rfl) rfl (fun _ => rfl) (fun r2 M1 => ?_)
  refine dp_s1 hF (i := .istore 5) rfl (fun _ => rfl) ?_
  refine dp_s1 hF (i := .aload_n 2) rfl (fun _ => rfl) ?_
  refine dp_s1 hF (i := .aload_n 0) rfl (fun _ => rfl) ?_
  refine dp_s1 hF (i := .iload 4) rfl (fun _ => rfl) ?_
  refine dp_s1 hF (i := .iconst 1) rfl (fun _ => rfl) ?_
  refine dp_s1 hF (i := .iadd) rfl (fun _ => rfl) ?_
  refine dp_s3 hF (i := .iaload) rfl (fun _ => rfl) ?_
  refine dp_s1 hF (i := .aload_n 0) rfl (fun _ => rfl) ?_
  refine dp_s1 hF (i := .iload 4) rfl (fun _ => rfl) ?_
  refine dp_s1 hF (i := .iconst 2) rfl (fun _ => rfl) ?_
  refine dp_s1 hF (i := .iadd) rfl (fun _ => rfl) ?_
  refine dp_s3 hF (i := .iaload) rfl (fun _ => rfl) ?_
  refine dp_s1 hF (i := .aload_n 0) rfl (fun _ => rfl) ?_
  refine dp_s1 hF (i := .iload 4) rfl (fun _ => rfl) ?_
  refine dp_s1 hF (i := .iconst 3) rfl (fun _ => rfl) ?_
  refine dp_s1 hF (i := .iadd) rfl (fun _ => rfl) ?_
  refine dp_s3 hF (i := .iaload) rfl (fun _ => rfl) ?_
  refine dp_s1 hF (i := .aload_n 0) rfl (fun _ => rfl) ?_
  refine dp_s1 hF (i := .iload 4) rfl (fun _ => rfl) ?_
  refine dp_s1 hF (i := .iconst 4) rfl (fun _ => rfl) ?_
  refine dp_s1 hF (i := .iadd) rfl (fun _ => rfl) ?_
  refine dp_s3 hF (i := .iaload) rfl (fun _ => rfl) ?_
  refine dp_s1 hF (i := .aload_n 0) rfl (fun _ => rfl) ?_
  refine dp_s1 hF (i := .iload 4) rfl (fun _ => rfl) ?_
  refine dp_s1 hF (i := .iconst 5) rfl (fun _ => rfl) ?_
  refine dp_s1 hF (i := .iadd) rfl (fun _ => rfl) ?_
  refine dp_s3 hF (i := .iaload) rfl (fun _ => rfl) ?_
  refine dp_s1 hF (i := .aload_n 0) rfl (fun _ => rfl) ?_
  refine dp_s1 hF (i := .iload 4) rfl (fun _ => rfl) ?_
  refine dp_s1 hF (i := .bipush 6) rfl (fun _ => rfl) ?_
  refine dp_s1 hF (i := .iadd) rfl (fun _ => rfl) ?_
  refine dp_s3 hF (i := .iaload) rfl (fun _ => rfl) ?_
  refine dp_s1 hF (i := .aload_n 0) rfl (fun _ => rfl) ?_
  refine dp_s1 hF (i := .iload 4) rfl (fun _ => rfl) ?_
  refine dp_s1 hF (i := .bipush 7) rfl (fun _ => rfl) ?_
  refine dp_s1 hF (i := .iadd) rfl (fun _ => rfl) ?_
  refine dp_s3 hF (i := .iaload) rfl (fun _ => rfl) ?_
  refine dp_si (mj := dp_m_X12_box) (i := .invokevirtual 228) rfl rfl (Or.inl rfl) rfl (fun _ => rfl) (fun r4 M3 => ?_)
  refine dp_s1 hF (i := .istore 6) rfl (fun _ => rfl) ?_
  refine dp_s1 hF (i := .aload_n 2) rfl (fun _ => rfl) ?_
  refine dp_si (mj := dp_m_X12_thrown) (i := .invokevirtual 229) rfl rfl (Or.inl rfl) rfl (fun _ => rfl) (fun r6 M5 => ?_)
  refine dp_s1 hF (i := .iload 5) rfl (fun _ => rfl) ?_
  refine dp_s2 hF (i := .if_icmp .eq 5) (a := (560, [some (.retAddr 0), some (.ref 0), some (.ref 114), some (.ref 245), some (.int v4), some (.int r2), some (.int r4), u7], [], M5)) (b := (558, [some (.retAddr 0), some (.ref 0), some (.ref 114), some (.ref 245), some (.int v4), some (.int r2), some (.int r4), u7], [], M5)) rfl (fun _ => rfl) ?_ ?_
  · refine dp_s1 hF (i := .iload 5) rfl (fun _ => rfl) ?_
    refine dp_s2 hF (i := .ifCond .ne 15) (a := (565, [some (.retAddr 0), some (.ref 0), some (.ref 114), some (.ref 245), some (.int v4), some (.int r2), some (.int r4), u7], [], M5)) (b := (577, [some (.retAddr 0), some (.ref 0), some (.ref 114), some (.ref 245), some (.int v4), some (.int r2), some (.int r4), u7], [], M5)) rfl (fun _ => rfl) ?_ ?_
    · refine dp_s1 hF (i := .aload_n 3) rfl (fun _ => rfl) ?_
      refine dp_s1 hF (i := .iconst 0) rfl (fun _ => rfl) ?_
      refine dp_s3 hF (i := .laload) rfl (fun _ => rfl) ?_
      refine dp_s1 hF (i := .iload 6) rfl (fun _ => rfl) ?_
      refine dp_s1 hF (i := .i2l) rfl (fun _ => rfl) ?_
      refine dp_s1 hF (i := .lcmp) rfl (fun _ => rfl) ?_
      refine dp_s2 hF (i := .ifCond .eq 5) (a := (577, [some (.retAddr 0), some (.ref 0), some (.ref 114), some (.ref 245), some (.int v4), some (.int r2), some (.int r4), u7], [], M5)) (b := (575, [some (.retAddr 0), some (.ref 0), some (.ref 114), some (.ref 245), some (.int v4), some (.int r2), some (.int r4), u7], [], M5)) rfl (fun _ => rfl) ?_ ?_
      · refine dp_s1 hF (i := .goto 5555) rfl (fun _ => rfl) ?_
        exact rfl
      refine dp_s1 hF (i := .iconst 0) rfl (fun _ => rfl) ?_
      exact dp_s0 hF (i := .ireturn) rfl (fun _ => rfl)
    refine dp_s1 hF (i := .goto 5555) rfl (fun _ => rfl) ?_
    exact rfl
  refine dp_s1 hF (i := .iconst 0) rfl (fun _ => rfl) ?_
  exact dp_s0 hF (i := .ireturn) rfl (fun _ => rfl)
set_option maxRecDepth 20000 in
theorem D_L_law_580_eq (xs : Nat → Int32) (xl d : Nat) (v4 : Int32) (u5 : Option Value) (u6 : Option Value) (u7 : Option Value) (M : dp_M) : D_L_law_580 xs xl d v4 u5 u6 u7 M = if (v4 + (1 : Int32)) < 0 ∨ xl ≤ Int32.toNatClampNeg (v4 + (1 : Int32)) then none else (if (v4 + (2 : Int32)) < 0 ∨ xl ≤ Int32.toNatClampNeg (v4 + (2 : Int32)) then none else (dp_bi (dp_den true xs xl d 265 [.ref 0, .int (xs (Int32.toNatClampNeg (v4 + (1 : Int32)))), .int (xs (Int32.toNatClampNeg (v4 + (2 : Int32))))] M) (fun r2 M1 => if (v4 + (1 : Int32)) < 0 ∨ xl ≤ Int32.toNatClampNeg (v4 + (1 : Int32)) then none else (if (v4 + (2 : Int32)) < 0 ∨ xl ≤ Int32.toNatClampNeg (v4 + (2 : Int32)) then none else (dp_bi (dp_den true xs xl d 376 [.ref 114, .int (xs (Int32.toNatClampNeg (v4 + (1 : Int32)))), .int (xs (Int32.toNatClampNeg (v4 + (2 : Int32))))] M1) (fun r4 M3 => if r2 = r4 then (D_L_law_6132 xs xl d v4 u5 u6 u7 M3) else (some (.inl (some (.int (0 : Int32))), M3)))))))) := by
  have hF := dp_den_grow (md := true) (xs := xs) (xl := xl) d
  unfold D_L_law_580
  refine dp_s1 hF (i := .aload_n 1) rfl (fun _ => rfl) ?_
  refine dp_s1 hF (i := .aload_n 0) rfl (fun _ => rfl) ?_
  refine dp_s1 hF (i := .iload 4) rfl (fun _ => rfl) ?_
  refine dp_s1 hF (i := .iconst 1) rfl (fun _ => rfl) ?_
  refine dp_s1 hF (i := .iadd) rfl (fun _ => rfl) ?_
  refine dp_s3 hF (i := .iaload) rfl (fun _ => rfl) ?_
  refine dp_s1 hF (i := .aload_n 0) rfl (fun _ => rfl) ?_
  refine dp_s1 hF (i := .iload 4) rfl (fun _ => rfl) ?_
  refine dp_s1 hF (i := .iconst 2) rfl (fun _ => rfl) ?_
  refine dp_s1 hF (i := .iadd) rfl (fun _ => rfl) ?_
  refine dp_s3 hF (i := .iaload) rfl (fun _ => rfl) ?_
  refine dp_si (mj := dp_m_X11_before) (i := .invokevirtual 233) rfl rfl (Or.inr rfl) rfl (fun _ => rfl) (fun r2 M1 => ?_)
  refine dp_s1 hF (i := .aload_n 2) rfl (fun _ => rfl) ?_
  refine dp_s1 hF (i := .aload_n 0) rfl (fun _ => rfl) ?_
  refine dp_s1 hF (i := .iload 4) rfl (fun _ => rfl) ?_
  refine dp_s1 hF (i := .iconst 1) rfl (fun _ => rfl) ?_
  refine dp_s1 hF (i := .iadd) rfl (fun _ => rfl) ?_
  refine dp_s3 hF (i := .iaload) rfl (fun _ => rfl) ?_
  refine dp_s1 hF (i := .aload_n 0) rfl (fun _ => rfl) ?_
  refine dp_s1 hF (i := .iload 4) rfl (fun _ => rfl) ?_
  refine dp_s1 hF (i := .iconst 2) rfl (fun _ => rfl) ?_
  refine dp_s1 hF (i := .iadd) rfl (fun _ => rfl) ?_
  refine dp_s3 hF (i := .iaload) rfl (fun _ => rfl) ?_
  refine dp_si (mj := dp_m_X12_before) (i := .invokevirtual 237) rfl rfl (Or.inr rfl) rfl (fun _ => rfl) (fun r4 M3 => ?_)
  refine dp_s2 hF (i := .if_icmp .eq 5520) (a := (6132, [some (.retAddr 0), some (.ref 0), some (.ref 114), some (.ref 245), some (.int v4), u5, u6, u7], [], M3)) (b := (615, [some (.retAddr 0), some (.ref 0), some (.ref 114), some (.ref 245), some (.int v4), u5, u6, u7], [], M3)) rfl (fun _ => rfl) ?_ ?_
  · exact rfl
  refine dp_s1 hF (i := .iconst 0) rfl (fun _ => rfl) ?_
  exact dp_s0 hF (i := .ireturn) rfl (fun _ => rfl)
set_option maxRecDepth 20000 in
theorem D_L_law_617_eq (xs : Nat → Int32) (xl d : Nat) (v4 : Int32) (u5 : Option Value) (u6 : Option Value) (u7 : Option Value) (M : dp_M) : D_L_law_617 xs xl d v4 u5 u6 u7 M = if (v4 + (1 : Int32)) < 0 ∨ xl ≤ Int32.toNatClampNeg (v4 + (1 : Int32)) then none else (dp_bi (dp_den true xs xl d 596 [.ref 0, .int (xs (Int32.toNatClampNeg (v4 + (1 : Int32)))), .ref 245] M) (fun r2 M1 => if (v4 + (1 : Int32)) < 0 ∨ xl ≤ Int32.toNatClampNeg (v4 + (1 : Int32)) then none else (dp_bi (dp_den true xs xl d 387 [.ref 114, .int (xs (Int32.toNatClampNeg (v4 + (1 : Int32))))] M1) (fun r4 M3 => dp_bi (dp_den true xs xl d 365 [.ref 114] M3) (fun r6 M5 => if r6 = r2 then (if r2 = 0 then (if (0 : Int32) < 0 ∨ 1 ≤ Int32.toNatClampNeg (0 : Int32) then none else (if (lg_cmp (dp_J M5 245 (Int32.toNatClampNeg (0 : Int32))) (Int32.toInt64 r4)) = 0 then (D_L_law_6132 xs xl d v4 (some (.int r2)) (some (.int r4)) u7 M5) else (some (.inl (some (.int (0 : Int32))), M5)))) else (D_L_law_6132 xs xl d v4 (some (.int r2)) (some (.int r4)) u7 M5)) else (some (.inl (some (.int (0 : Int32))), M5))))))) := by
  have hF := dp_den_grow (md := true) (xs := xs) (xl := xl) d
  unfold D_L_law_617
  refine dp_s1 hF (i := .aload_n 1) rfl (fun _ => rfl) ?_
  refine dp_s1 hF (i := .aload_n 0) rfl (fun _ => rfl) ?_
  refine dp_s1 hF (i := .iload 4) rfl (fun _ => rfl) ?_
  refine dp_s1 hF (i := .iconst 1) rfl (fun _ => rfl) ?_
  refine dp_s1 hF (i := .iadd) rfl (fun _ => rfl) ?_
  refine dp_s3 hF (i := .iaload) rfl (fun _ => rfl) ?_
  refine dp_s1 hF (i := .aload_n 3) rfl (fun _ => rfl) ?_
  refine dp_si (mj := dp_m_L_plan) (i := .invokestatic 238) rfl rfl (Or.inl rfl) rfl (fun _ => rfl) (fun r2 M1 => ?_)
  refine dp_s1 hF (i := .istore 5) rfl (fun _ => rfl) ?_
  refine dp_s1 hF (i := .aload_n 2) rfl (fun _ => rfl) ?_
  refine dp_s1 hF (i := .aload_n 0) rfl (fun _ => rfl) ?_
  refine dp_s1 hF (i := .iload 4) rfl (fun _ => rfl) ?_
  refine dp_s1 hF (i := .iconst 1) rfl (fun _ => rfl) ?_
  refine dp_s1 hF (i := .iadd) rfl (fun _ => rfl) ?_
  refine dp_s3 hF (i := .iaload) rfl (fun _ => rfl) ?_
  refine dp_si (mj := dp_m_X12_plan) (i := .invokevirtual 241) rfl rfl (Or.inl rfl) rfl (fun _ => rfl) (fun r4 M3 => ?_)
  refine dp_s1 hF (i := .istore 6) rfl (fun _ => rfl) ?_
  refine dp_s1 hF (i := .aload_n 2) rfl (fun _ => rfl) ?_
  refine dp_si (mj := dp_m_X12_thrown) (i := .invokevirtual 229) rfl rfl (Or.inl rfl) rfl (fun _ => rfl) (fun r6 M5 => ?_)
  refine dp_s1 hF (i := .iload 5) rfl (fun _ => rfl) ?_
  refine dp_s2 hF (i := .if_icmp .eq 5) (a := (653, [some (.retAddr 0), some (.ref 0), some (.ref 114), some (.ref 245), some (.int v4), some (.int r2), some (.int r4), u7], [], M5)) (b := (651, [some (.retAddr 0), some (.ref 0), some (.ref 114), some (.ref 245), some (.int v4), some (.int r2), some (.int r4), u7], [], M5)) rfl (fun _ => rfl) ?_ ?_
  · refine dp_s1 hF (i := .iload 5) rfl (fun _ => rfl) ?_
    refine dp_s2 hF (i := .ifCond .ne 15) (a := (658, [some (.retAddr 0), some (.ref 0), some (.ref 114), some (.ref 245), some (.int v4), some (.int r2), some (.int r4), u7], [], M5)) (b := (670, [some (.retAddr 0), some (.ref 0), some (.ref 114), some (.ref 245), some (.int v4), some (.int r2), some (.int r4), u7], [], M5)) rfl (fun _ => rfl) ?_ ?_
    · refine dp_s1 hF (i := .aload_n 3) rfl (fun _ => rfl) ?_
      refine dp_s1 hF (i := .iconst 0) rfl (fun _ => rfl) ?_
      refine dp_s3 hF (i := .laload) rfl (fun _ => rfl) ?_
      refine dp_s1 hF (i := .iload 6) rfl (fun _ => rfl) ?_
      refine dp_s1 hF (i := .i2l) rfl (fun _ => rfl) ?_
      refine dp_s1 hF (i := .lcmp) rfl (fun _ => rfl) ?_
      refine dp_s2 hF (i := .ifCond .eq 5) (a := (670, [some (.retAddr 0), some (.ref 0), some (.ref 114), some (.ref 245), some (.int v4), some (.int r2), some (.int r4), u7], [], M5)) (b := (668, [some (.retAddr 0), some (.ref 0), some (.ref 114), some (.ref 245), some (.int v4), some (.int r2), some (.int r4), u7], [], M5)) rfl (fun _ => rfl) ?_ ?_
      · refine dp_s1 hF (i := .goto 5462) rfl (fun _ => rfl) ?_
        exact rfl
      refine dp_s1 hF (i := .iconst 0) rfl (fun _ => rfl) ?_
      exact dp_s0 hF (i := .ireturn) rfl (fun _ => rfl)
    refine dp_s1 hF (i := .goto 5462) rfl (fun _ => rfl) ?_
    exact rfl
  refine dp_s1 hF (i := .iconst 0) rfl (fun _ => rfl) ?_
  exact dp_s0 hF (i := .ireturn) rfl (fun _ => rfl)
set_option maxRecDepth 20000 in
theorem D_L_law_673_eq (xs : Nat → Int32) (xl d : Nat) (v4 : Int32) (u5 : Option Value) (u6 : Option Value) (u7 : Option Value) (M : dp_M) : D_L_law_673 xs xl d v4 u5 u6 u7 M = if (v4 + (1 : Int32)) < 0 ∨ xl ≤ Int32.toNatClampNeg (v4 + (1 : Int32)) then none else (if (v4 + (2 : Int32)) < 0 ∨ xl ≤ Int32.toNatClampNeg (v4 + (2 : Int32)) then none else (if (v4 + (3 : Int32)) < 0 ∨ xl ≤ Int32.toNatClampNeg (v4 + (3 : Int32)) then none else (dp_bi (dp_den true xs xl d 597 [.ref 0, .int (xs (Int32.toNatClampNeg (v4 + (1 : Int32)))), .int (xs (Int32.toNatClampNeg (v4 + (2 : Int32)))), .int (xs (Int32.toNatClampNeg (v4 + (3 : Int32)))), .ref 245] M) (fun r2 M1 => if (v4 + (1 : Int32)) < 0 ∨ xl ≤ Int32.toNatClampNeg (v4 + (1 : Int32)) then none else (if (v4 + (2 : Int32)) < 0 ∨ xl ≤ Int32.toNatClampNeg (v4 + (2 : Int32)) then none else (if (v4 + (3 : Int32)) < 0 ∨ xl ≤ Int32.toNatClampNeg (v4 + (3 : Int32)) then none else (dp_bi (dp_den true xs xl d 388 [.ref 114, .int (xs (Int32.toNatClampNeg (v4 + (1 : Int32)))), .int (xs (Int32.toNatClampNeg (v4 + (2 : Int32)))), .int (xs (Int32.toNatClampNeg (v4 + (3 : Int32))))] M1) (fun r4 M3 => dp_bi (dp_den true xs xl d 365 [.ref 114] M3) (fun r6 M5 => if r6 = r2 then (if r2 = 0 then (if (0 : Int32) < 0 ∨ 1 ≤ Int32.toNatClampNeg (0 : Int32) then none else (if (lg_cmp (dp_J M5 245 (Int32.toNatClampNeg (0 : Int32))) (Int32.toInt64 r4)) = 0 then (D_L_law_6132 xs xl d v4 (some (.int r2)) (some (.int r4)) u7 M5) else (some (.inl (some (.int (0 : Int32))), M5)))) else (D_L_law_6132 xs xl d v4 (some (.int r2)) (some (.int r4)) u7 M5)) else (some (.inl (some (.int (0 : Int32))), M5))))))))))) := by
  have hF := dp_den_grow (md := true) (xs := xs) (xl := xl) d
  unfold D_L_law_673
  refine dp_s1 hF (i := .aload_n 1) rfl (fun _ => rfl) ?_
  refine dp_s1 hF (i := .aload_n 0) rfl (fun _ => rfl) ?_
  refine dp_s1 hF (i := .iload 4) rfl (fun _ => rfl) ?_
  refine dp_s1 hF (i := .iconst 1) rfl (fun _ => rfl) ?_
  refine dp_s1 hF (i := .iadd) rfl (fun _ => rfl) ?_
  refine dp_s3 hF (i := .iaload) rfl (fun _ => rfl) ?_
  refine dp_s1 hF (i := .aload_n 0) rfl (fun _ => rfl) ?_
  refine dp_s1 hF (i := .iload 4) rfl (fun _ => rfl) ?_
  refine dp_s1 hF (i := .iconst 2) rfl (fun _ => rfl) ?_
  refine dp_s1 hF (i := .iadd) rfl (fun _ => rfl) ?_
  refine dp_s3 hF (i := .iaload) rfl (fun _ => rfl) ?_
  refine dp_s1 hF (i := .aload_n 0) rfl (fun _ => rfl) ?_
  refine dp_s1 hF (i := .iload 4) rfl (fun _ => rfl) ?_
  refine dp_s1 hF (i := .iconst 3) rfl (fun _ => rfl) ?_
  refine dp_s1 hF (i := .iadd) rfl (fun _ => rfl) ?_
  refine dp_s3 hF (i := .iaload) rfl (fun _ => rfl) ?_
  refine dp_s1 hF (i := .aload_n 3) rfl (fun _ => rfl) ?_
  refine dp_si (mj := dp_m_L_move) (i := .invokestatic 242) rfl rfl (Or.inl rfl) rfl (fun _ => rfl) (fun r2 M1 => ?_)
  refine dp_s1 hF (i := .istore 5) rfl (fun _ => rfl) ?_
  refine dp_s1 hF (i := .aload_n 2) rfl (fun _ => rfl) ?_
  refine dp_s1 hF (i := .aload_n 0) rfl (fun _ => rfl) ?_
  refine dp_s1 hF (i := .iload 4) rfl (fun _ => rfl) ?_
  refine dp_s1 hF (i := .iconst 1) rfl (fun _ => rfl) ?_
  refine dp_s1 hF (i := .iadd) rfl (fun _ => rfl) ?_
  refine dp_s3 hF (i := .iaload) rfl (fun _ => rfl) ?_
  refine dp_s1 hF (i := .aload_n 0) rfl (fun _ => rfl) ?_
  refine dp_s1 hF (i := .iload 4) rfl (fun _ => rfl) ?_
  refine dp_s1 hF (i := .iconst 2) rfl (fun _ => rfl) ?_
  refine dp_s1 hF (i := .iadd) rfl (fun _ => rfl) ?_
  refine dp_s3 hF (i := .iaload) rfl (fun _ => rfl) ?_
  refine dp_s1 hF (i := .aload_n 0) rfl (fun _ => rfl) ?_
  refine dp_s1 hF (i := .iload 4) rfl (fun _ => rfl) ?_
  refine dp_s1 hF (i := .iconst 3) rfl (fun _ => rfl) ?_
  refine dp_s1 hF (i := .iadd) rfl (fun _ => rfl) ?_
  refine dp_s3 hF (i := .iaload) rfl (fun _ => rfl) ?_
  refine dp_si (mj := dp_m_X12_move) (i := .invokevirtual 245) rfl rfl (Or.inl rfl) rfl (fun _ => rfl) (fun r4 M3 => ?_)
  refine dp_s1 hF (i := .istore 6) rfl (fun _ => rfl) ?_
  refine dp_s1 hF (i := .aload_n 2) rfl (fun _ => rfl) ?_
  refine dp_si (mj := dp_m_X12_thrown) (i := .invokevirtual 229) rfl rfl (Or.inl rfl) rfl (fun _ => rfl) (fun r6 M5 => ?_)
  refine dp_s1 hF (i := .iload 5) rfl (fun _ => rfl) ?_
  refine dp_s2 hF (i := .if_icmp .eq 5) (a := (733, [some (.retAddr 0), some (.ref 0), some (.ref 114), some (.ref 245), some (.int v4), some (.int r2), some (.int r4), u7], [], M5)) (b := (731, [some (.retAddr 0), some (.ref 0), some (.ref 114), some (.ref 245), some (.int v4), some (.int r2), some (.int r4), u7], [], M5)) rfl (fun _ => rfl) ?_ ?_
  · refine dp_s1 hF (i := .iload 5) rfl (fun _ => rfl) ?_
    refine dp_s2 hF (i := .ifCond .ne 15) (a := (738, [some (.retAddr 0), some (.ref 0), some (.ref 114), some (.ref 245), some (.int v4), some (.int r2), some (.int r4), u7], [], M5)) (b := (750, [some (.retAddr 0), some (.ref 0), some (.ref 114), some (.ref 245), some (.int v4), some (.int r2), some (.int r4), u7], [], M5)) rfl (fun _ => rfl) ?_ ?_
    · refine dp_s1 hF (i := .aload_n 3) rfl (fun _ => rfl) ?_
      refine dp_s1 hF (i := .iconst 0) rfl (fun _ => rfl) ?_
      refine dp_s3 hF (i := .laload) rfl (fun _ => rfl) ?_
      refine dp_s1 hF (i := .iload 6) rfl (fun _ => rfl) ?_
      refine dp_s1 hF (i := .i2l) rfl (fun _ => rfl) ?_
      refine dp_s1 hF (i := .lcmp) rfl (fun _ => rfl) ?_
      refine dp_s2 hF (i := .ifCond .eq 5) (a := (750, [some (.retAddr 0), some (.ref 0), some (.ref 114), some (.ref 245), some (.int v4), some (.int r2), some (.int r4), u7], [], M5)) (b := (748, [some (.retAddr 0), some (.ref 0), some (.ref 114), some (.ref 245), some (.int v4), some (.int r2), some (.int r4), u7], [], M5)) rfl (fun _ => rfl) ?_ ?_
      · refine dp_s1 hF (i := .goto 5382) rfl (fun _ => rfl) ?_
        exact rfl
      refine dp_s1 hF (i := .iconst 0) rfl (fun _ => rfl) ?_
      exact dp_s0 hF (i := .ireturn) rfl (fun _ => rfl)
    refine dp_s1 hF (i := .goto 5382) rfl (fun _ => rfl) ?_
    exact rfl
  refine dp_s1 hF (i := .iconst 0) rfl (fun _ => rfl) ?_
  exact dp_s0 hF (i := .ireturn) rfl (fun _ => rfl)
set_option maxRecDepth 20000 in
theorem D_L_law_753_eq (xs : Nat → Int32) (xl d : Nat) (v4 : Int32) (u5 : Option Value) (u6 : Option Value) (u7 : Option Value) (M : dp_M) : D_L_law_753 xs xl d v4 u5 u6 u7 M = if (v4 + (1 : Int32)) < 0 ∨ xl ≤ Int32.toNatClampNeg (v4 + (1 : Int32)) then none else (dp_bi (dp_den true xs xl d 598 [.ref 0, .int (xs (Int32.toNatClampNeg (v4 + (1 : Int32)))), .ref 245] M) (fun r2 M1 => if (v4 + (1 : Int32)) < 0 ∨ xl ≤ Int32.toNatClampNeg (v4 + (1 : Int32)) then none else (dp_bi (dp_den true xs xl d 389 [.ref 114, .int (xs (Int32.toNatClampNeg (v4 + (1 : Int32))))] M1) (fun r4 M3 => dp_bi (dp_den true xs xl d 365 [.ref 114] M3) (fun r6 M5 => if r6 = r2 then (if r2 = 0 then (if (0 : Int32) < 0 ∨ 1 ≤ Int32.toNatClampNeg (0 : Int32) then none else (if (lg_cmp (dp_J M5 245 (Int32.toNatClampNeg (0 : Int32))) (Int32.toInt64 r4)) = 0 then (D_L_law_6132 xs xl d v4 (some (.int r2)) (some (.int r4)) u7 M5) else (some (.inl (some (.int (0 : Int32))), M5)))) else (D_L_law_6132 xs xl d v4 (some (.int r2)) (some (.int r4)) u7 M5)) else (some (.inl (some (.int (0 : Int32))), M5))))))) := by
  have hF := dp_den_grow (md := true) (xs := xs) (xl := xl) d
  unfold D_L_law_753
  refine dp_s1 hF (i := .aload_n 1) rfl (fun _ => rfl) ?_
  refine dp_s1 hF (i := .aload_n 0) rfl (fun _ => rfl) ?_
  refine dp_s1 hF (i := .iload 4) rfl (fun _ => rfl) ?_
  refine dp_s1 hF (i := .iconst 1) rfl (fun _ => rfl) ?_
  refine dp_s1 hF (i := .iadd) rfl (fun _ => rfl) ?_
  refine dp_s3 hF (i := .iaload) rfl (fun _ => rfl) ?_
  refine dp_s1 hF (i := .aload_n 3) rfl (fun _ => rfl) ?_
  refine dp_si (mj := dp_m_L_work) (i := .invokestatic 246) rfl rfl (Or.inl rfl) rfl (fun _ => rfl) (fun r2 M1 => ?_)
  refine dp_s1 hF (i := .istore 5) rfl (fun _ => rfl) ?_
  refine dp_s1 hF (i := .aload_n 2) rfl (fun _ => rfl) ?_
  refine dp_s1 hF (i := .aload_n 0) rfl (fun _ => rfl) ?_
  refine dp_s1 hF (i := .iload 4) rfl (fun _ => rfl) ?_
  refine dp_s1 hF (i := .iconst 1) rfl (fun _ => rfl) ?_
  refine dp_s1 hF (i := .iadd) rfl (fun _ => rfl) ?_
  refine dp_s3 hF (i := .iaload) rfl (fun _ => rfl) ?_
  refine dp_si (mj := dp_m_X12_work) (i := .invokevirtual 248) rfl rfl (Or.inl rfl) rfl (fun _ => rfl) (fun r4 M3 => ?_)
  refine dp_s1 hF (i := .istore 6) rfl (fun _ => rfl) ?_
  refine dp_s1 hF (i := .aload_n 2) rfl (fun _ => rfl) ?_
  refine dp_si (mj := dp_m_X12_thrown) (i := .invokevirtual 229) rfl rfl (Or.inl rfl) rfl (fun _ => rfl) (fun r6 M5 => ?_)
  refine dp_s1 hF (i := .iload 5) rfl (fun _ => rfl) ?_
  refine dp_s2 hF (i := .if_icmp .eq 5) (a := (789, [some (.retAddr 0), some (.ref 0), some (.ref 114), some (.ref 245), some (.int v4), some (.int r2), some (.int r4), u7], [], M5)) (b := (787, [some (.retAddr 0), some (.ref 0), some (.ref 114), some (.ref 245), some (.int v4), some (.int r2), some (.int r4), u7], [], M5)) rfl (fun _ => rfl) ?_ ?_
  · refine dp_s1 hF (i := .iload 5) rfl (fun _ => rfl) ?_
    refine dp_s2 hF (i := .ifCond .ne 15) (a := (794, [some (.retAddr 0), some (.ref 0), some (.ref 114), some (.ref 245), some (.int v4), some (.int r2), some (.int r4), u7], [], M5)) (b := (806, [some (.retAddr 0), some (.ref 0), some (.ref 114), some (.ref 245), some (.int v4), some (.int r2), some (.int r4), u7], [], M5)) rfl (fun _ => rfl) ?_ ?_
    · refine dp_s1 hF (i := .aload_n 3) rfl (fun _ => rfl) ?_
      refine dp_s1 hF (i := .iconst 0) rfl (fun _ => rfl) ?_
      refine dp_s3 hF (i := .laload) rfl (fun _ => rfl) ?_
      refine dp_s1 hF (i := .iload 6) rfl (fun _ => rfl) ?_
      refine dp_s1 hF (i := .i2l) rfl (fun _ => rfl) ?_
      refine dp_s1 hF (i := .lcmp) rfl (fun _ => rfl) ?_
      refine dp_s2 hF (i := .ifCond .eq 5) (a := (806, [some (.retAddr 0), some (.ref 0), some (.ref 114), some (.ref 245), some (.int v4), some (.int r2), some (.int r4), u7], [], M5)) (b := (804, [some (.retAddr 0), some (.ref 0), some (.ref 114), some (.ref 245), some (.int v4), some (.int r2), some (.int r4), u7], [], M5)) rfl (fun _ => rfl) ?_ ?_
      · refine dp_s1 hF (i := .goto 5326) rfl (fun _ => rfl) ?_
        exact rfl
      refine dp_s1 hF (i := .iconst 0) rfl (fun _ => rfl) ?_
      exact dp_s0 hF (i := .ireturn) rfl (fun _ => rfl)
    refine dp_s1 hF (i := .goto 5326) rfl (fun _ => rfl) ?_
    exact rfl
  refine dp_s1 hF (i := .iconst 0) rfl (fun _ => rfl) ?_
  exact dp_s0 hF (i := .ireturn) rfl (fun _ => rfl)
set_option maxRecDepth 20000 in
theorem D_L_law_809_eq (xs : Nat → Int32) (xl d : Nat) (v4 : Int32) (u5 : Option Value) (u6 : Option Value) (u7 : Option Value) (M : dp_M) : D_L_law_809 xs xl d v4 u5 u6 u7 M = if (v4 + (1 : Int32)) < 0 ∨ xl ≤ Int32.toNatClampNeg (v4 + (1 : Int32)) then none else (dp_bi (dp_den true xs xl d 599 [.ref 0, .int (xs (Int32.toNatClampNeg (v4 + (1 : Int32)))), .ref 245] M) (fun r2 M1 => if (v4 + (1 : Int32)) < 0 ∨ xl ≤ Int32.toNatClampNeg (v4 + (1 : Int32)) then none else (dp_bi (dp_den true xs xl d 391 [.ref 114, .int (xs (Int32.toNatClampNeg (v4 + (1 : Int32))))] M1) (fun r4 M3 => dp_bi (dp_den true xs xl d 365 [.ref 114] M3) (fun r6 M5 => if r6 = r2 then (if r2 = 0 then (if (0 : Int32) < 0 ∨ 1 ≤ Int32.toNatClampNeg (0 : Int32) then none else (if (lg_cmp (dp_J M5 245 (Int32.toNatClampNeg (0 : Int32))) (Int32.toInt64 r4)) = 0 then (D_L_law_6132 xs xl d v4 (some (.int r2)) (some (.int r4)) u7 M5) else (some (.inl (some (.int (0 : Int32))), M5)))) else (D_L_law_6132 xs xl d v4 (some (.int r2)) (some (.int r4)) u7 M5)) else (some (.inl (some (.int (0 : Int32))), M5))))))) := by
  have hF := dp_den_grow (md := true) (xs := xs) (xl := xl) d
  unfold D_L_law_809
  refine dp_s1 hF (i := .aload_n 1) rfl (fun _ => rfl) ?_
  refine dp_s1 hF (i := .aload_n 0) rfl (fun _ => rfl) ?_
  refine dp_s1 hF (i := .iload 4) rfl (fun _ => rfl) ?_
  refine dp_s1 hF (i := .iconst 1) rfl (fun _ => rfl) ?_
  refine dp_s1 hF (i := .iadd) rfl (fun _ => rfl) ?_
  refine dp_s3 hF (i := .iaload) rfl (fun _ => rfl) ?_
  refine dp_s1 hF (i := .aload_n 3) rfl (fun _ => rfl) ?_
  refine dp_si (mj := dp_m_L_least) (i := .invokestatic 249) rfl rfl (Or.inl rfl) rfl (fun _ => rfl) (fun r2 M1 => ?_)
  refine dp_s1 hF (i := .istore 5) rfl (fun _ => rfl) ?_
  refine dp_s1 hF (i := .aload_n 2) rfl (fun _ => rfl) ?_
  refine dp_s1 hF (i := .aload_n 0) rfl (fun _ => rfl) ?_
  refine dp_s1 hF (i := .iload 4) rfl (fun _ => rfl) ?_
  refine dp_s1 hF (i := .iconst 1) rfl (fun _ => rfl) ?_
  refine dp_s1 hF (i := .iadd) rfl (fun _ => rfl) ?_
  refine dp_s3 hF (i := .iaload) rfl (fun _ => rfl) ?_
  refine dp_si (mj := dp_m_X12_least) (i := .invokevirtual 251) rfl rfl (Or.inl rfl) rfl (fun _ => rfl) (fun r4 M3 => ?_)
  refine dp_s1 hF (i := .istore 6) rfl (fun _ => rfl) ?_
  refine dp_s1 hF (i := .aload_n 2) rfl (fun _ => rfl) ?_
  refine dp_si (mj := dp_m_X12_thrown) (i := .invokevirtual 229) rfl rfl (Or.inl rfl) rfl (fun _ => rfl) (fun r6 M5 => ?_)
  refine dp_s1 hF (i := .iload 5) rfl (fun _ => rfl) ?_
  refine dp_s2 hF (i := .if_icmp .eq 5) (a := (845, [some (.retAddr 0), some (.ref 0), some (.ref 114), some (.ref 245), some (.int v4), some (.int r2), some (.int r4), u7], [], M5)) (b := (843, [some (.retAddr 0), some (.ref 0), some (.ref 114), some (.ref 245), some (.int v4), some (.int r2), some (.int r4), u7], [], M5)) rfl (fun _ => rfl) ?_ ?_
  · refine dp_s1 hF (i := .iload 5) rfl (fun _ => rfl) ?_
    refine dp_s2 hF (i := .ifCond .ne 15) (a := (850, [some (.retAddr 0), some (.ref 0), some (.ref 114), some (.ref 245), some (.int v4), some (.int r2), some (.int r4), u7], [], M5)) (b := (862, [some (.retAddr 0), some (.ref 0), some (.ref 114), some (.ref 245), some (.int v4), some (.int r2), some (.int r4), u7], [], M5)) rfl (fun _ => rfl) ?_ ?_
    · refine dp_s1 hF (i := .aload_n 3) rfl (fun _ => rfl) ?_
      refine dp_s1 hF (i := .iconst 0) rfl (fun _ => rfl) ?_
      refine dp_s3 hF (i := .laload) rfl (fun _ => rfl) ?_
      refine dp_s1 hF (i := .iload 6) rfl (fun _ => rfl) ?_
      refine dp_s1 hF (i := .i2l) rfl (fun _ => rfl) ?_
      refine dp_s1 hF (i := .lcmp) rfl (fun _ => rfl) ?_
      refine dp_s2 hF (i := .ifCond .eq 5) (a := (862, [some (.retAddr 0), some (.ref 0), some (.ref 114), some (.ref 245), some (.int v4), some (.int r2), some (.int r4), u7], [], M5)) (b := (860, [some (.retAddr 0), some (.ref 0), some (.ref 114), some (.ref 245), some (.int v4), some (.int r2), some (.int r4), u7], [], M5)) rfl (fun _ => rfl) ?_ ?_
      · refine dp_s1 hF (i := .goto 5270) rfl (fun _ => rfl) ?_
        exact rfl
      refine dp_s1 hF (i := .iconst 0) rfl (fun _ => rfl) ?_
      exact dp_s0 hF (i := .ireturn) rfl (fun _ => rfl)
    refine dp_s1 hF (i := .goto 5270) rfl (fun _ => rfl) ?_
    exact rfl
  refine dp_s1 hF (i := .iconst 0) rfl (fun _ => rfl) ?_
  exact dp_s0 hF (i := .ireturn) rfl (fun _ => rfl)
set_option maxRecDepth 20000 in
theorem D_L_law_865_eq (xs : Nat → Int32) (xl d : Nat) (v4 : Int32) (u5 : Option Value) (u6 : Option Value) (u7 : Option Value) (M : dp_M) : D_L_law_865 xs xl d v4 u5 u6 u7 M = if (v4 + (1 : Int32)) < 0 ∨ xl ≤ Int32.toNatClampNeg (v4 + (1 : Int32)) then none else (if (v4 + (2 : Int32)) < 0 ∨ xl ≤ Int32.toNatClampNeg (v4 + (2 : Int32)) then none else (dp_bi (dp_den true xs xl d 600 [.ref 0, .int (xs (Int32.toNatClampNeg (v4 + (1 : Int32)))), .int (xs (Int32.toNatClampNeg (v4 + (2 : Int32)))), .ref 245] M) (fun r2 M1 => if (v4 + (1 : Int32)) < 0 ∨ xl ≤ Int32.toNatClampNeg (v4 + (1 : Int32)) then none else (if (v4 + (2 : Int32)) < 0 ∨ xl ≤ Int32.toNatClampNeg (v4 + (2 : Int32)) then none else (dp_bi (dp_den true xs xl d 393 [.ref 114, .int (xs (Int32.toNatClampNeg (v4 + (1 : Int32)))), .int (xs (Int32.toNatClampNeg (v4 + (2 : Int32))))] M1) (fun r4 M3 => dp_bi (dp_den true xs xl d 365 [.ref 114] M3) (fun r6 M5 => if r6 = r2 then (if r2 = 0 then (if (0 : Int32) < 0 ∨ 1 ≤ Int32.toNatClampNeg (0 : Int32) then none else (if (lg_cmp (dp_J M5 245 (Int32.toNatClampNeg (0 : Int32))) (Int32.toInt64 r4)) = 0 then (D_L_law_6132 xs xl d v4 (some (.int r2)) (some (.int r4)) u7 M5) else (some (.inl (some (.int (0 : Int32))), M5)))) else (D_L_law_6132 xs xl d v4 (some (.int r2)) (some (.int r4)) u7 M5)) else (some (.inl (some (.int (0 : Int32))), M5))))))))) := by
  have hF := dp_den_grow (md := true) (xs := xs) (xl := xl) d
  unfold D_L_law_865
  refine dp_s1 hF (i := .aload_n 1) rfl (fun _ => rfl) ?_
  refine dp_s1 hF (i := .aload_n 0) rfl (fun _ => rfl) ?_
  refine dp_s1 hF (i := .iload 4) rfl (fun _ => rfl) ?_
  refine dp_s1 hF (i := .iconst 1) rfl (fun _ => rfl) ?_
  refine dp_s1 hF (i := .iadd) rfl (fun _ => rfl) ?_
  refine dp_s3 hF (i := .iaload) rfl (fun _ => rfl) ?_
  refine dp_s1 hF (i := .aload_n 0) rfl (fun _ => rfl) ?_
  refine dp_s1 hF (i := .iload 4) rfl (fun _ => rfl) ?_
  refine dp_s1 hF (i := .iconst 2) rfl (fun _ => rfl) ?_
  refine dp_s1 hF (i := .iadd) rfl (fun _ => rfl) ?_
  refine dp_s3 hF (i := .iaload) rfl (fun _ => rfl) ?_
  refine dp_s1 hF (i := .aload_n 3) rfl (fun _ => rfl) ?_
  refine dp_si (mj := dp_m_L_swap) (i := .invokestatic 252) rfl rfl (Or.inl rfl) rfl (fun _ => rfl) (fun r2 M1 => ?_)
  refine dp_s1 hF (i := .istore 5) rfl (fun _ => rfl) ?_
  refine dp_s1 hF (i := .aload_n 2) rfl (fun _ => rfl) ?_
  refine dp_s1 hF (i := .aload_n 0) rfl (fun _ => rfl) ?_
  refine dp_s1 hF (i := .iload 4) rfl (fun _ => rfl) ?_
  refine dp_s1 hF (i := .iconst 1) rfl (fun _ => rfl) ?_
  refine dp_s1 hF (i := .iadd) rfl (fun _ => rfl) ?_
  refine dp_s3 hF (i := .iaload) rfl (fun _ => rfl) ?_
  refine dp_s1 hF (i := .aload_n 0) rfl (fun _ => rfl) ?_
  refine dp_s1 hF (i := .iload 4) rfl (fun _ => rfl) ?_
  refine dp_s1 hF (i := .iconst 2) rfl (fun _ => rfl) ?_
  refine dp_s1 hF (i := .iadd) rfl (fun _ => rfl) ?_
  refine dp_s3 hF (i := .iaload) rfl (fun _ => rfl) ?_
  refine dp_si (mj := dp_m_X12_swap) (i := .invokevirtual 255) rfl rfl (Or.inl rfl) rfl (fun _ => rfl) (fun r4 M3 => ?_)
  refine dp_s1 hF (i := .istore 6) rfl (fun _ => rfl) ?_
  refine dp_s1 hF (i := .aload_n 2) rfl (fun _ => rfl) ?_
  refine dp_si (mj := dp_m_X12_thrown) (i := .invokevirtual 229) rfl rfl (Or.inl rfl) rfl (fun _ => rfl) (fun r6 M5 => ?_)
  refine dp_s1 hF (i := .iload 5) rfl (fun _ => rfl) ?_
  refine dp_s2 hF (i := .if_icmp .eq 5) (a := (913, [some (.retAddr 0), some (.ref 0), some (.ref 114), some (.ref 245), some (.int v4), some (.int r2), some (.int r4), u7], [], M5)) (b := (911, [some (.retAddr 0), some (.ref 0), some (.ref 114), some (.ref 245), some (.int v4), some (.int r2), some (.int r4), u7], [], M5)) rfl (fun _ => rfl) ?_ ?_
  · refine dp_s1 hF (i := .iload 5) rfl (fun _ => rfl) ?_
    refine dp_s2 hF (i := .ifCond .ne 15) (a := (918, [some (.retAddr 0), some (.ref 0), some (.ref 114), some (.ref 245), some (.int v4), some (.int r2), some (.int r4), u7], [], M5)) (b := (930, [some (.retAddr 0), some (.ref 0), some (.ref 114), some (.ref 245), some (.int v4), some (.int r2), some (.int r4), u7], [], M5)) rfl (fun _ => rfl) ?_ ?_
    · refine dp_s1 hF (i := .aload_n 3) rfl (fun _ => rfl) ?_
      refine dp_s1 hF (i := .iconst 0) rfl (fun _ => rfl) ?_
      refine dp_s3 hF (i := .laload) rfl (fun _ => rfl) ?_
      refine dp_s1 hF (i := .iload 6) rfl (fun _ => rfl) ?_
      refine dp_s1 hF (i := .i2l) rfl (fun _ => rfl) ?_
      refine dp_s1 hF (i := .lcmp) rfl (fun _ => rfl) ?_
      refine dp_s2 hF (i := .ifCond .eq 5) (a := (930, [some (.retAddr 0), some (.ref 0), some (.ref 114), some (.ref 245), some (.int v4), some (.int r2), some (.int r4), u7], [], M5)) (b := (928, [some (.retAddr 0), some (.ref 0), some (.ref 114), some (.ref 245), some (.int v4), some (.int r2), some (.int r4), u7], [], M5)) rfl (fun _ => rfl) ?_ ?_
      · refine dp_s1 hF (i := .goto 5202) rfl (fun _ => rfl) ?_
        exact rfl
      refine dp_s1 hF (i := .iconst 0) rfl (fun _ => rfl) ?_
      exact dp_s0 hF (i := .ireturn) rfl (fun _ => rfl)
    refine dp_s1 hF (i := .goto 5202) rfl (fun _ => rfl) ?_
    exact rfl
  refine dp_s1 hF (i := .iconst 0) rfl (fun _ => rfl) ?_
  exact dp_s0 hF (i := .ireturn) rfl (fun _ => rfl)
set_option maxRecDepth 20000 in
theorem D_L_law_933_eq (xs : Nat → Int32) (xl d : Nat) (v4 : Int32) (u5 : Option Value) (u6 : Option Value) (u7 : Option Value) (M : dp_M) : D_L_law_933 xs xl d v4 u5 u6 u7 M = if (v4 + (1 : Int32)) < 0 ∨ xl ≤ Int32.toNatClampNeg (v4 + (1 : Int32)) then none else (if (v4 + (2 : Int32)) < 0 ∨ xl ≤ Int32.toNatClampNeg (v4 + (2 : Int32)) then none else (dp_bi (dp_den true xs xl d 601 [.ref 0, .int (xs (Int32.toNatClampNeg (v4 + (1 : Int32)))), .int (xs (Int32.toNatClampNeg (v4 + (2 : Int32)))), .ref 245] M) (fun r2 M1 => if (v4 + (1 : Int32)) < 0 ∨ xl ≤ Int32.toNatClampNeg (v4 + (1 : Int32)) then none else (if (v4 + (2 : Int32)) < 0 ∨ xl ≤ Int32.toNatClampNeg (v4 + (2 : Int32)) then none else (dp_bi (dp_den true xs xl d 394 [.ref 114, .int (xs (Int32.toNatClampNeg (v4 + (1 : Int32)))), .int (xs (Int32.toNatClampNeg (v4 + (2 : Int32))))] M1) (fun r4 M3 => dp_bi (dp_den true xs xl d 365 [.ref 114] M3) (fun r6 M5 => if r6 = r2 then (if r2 = 0 then (if (0 : Int32) < 0 ∨ 1 ≤ Int32.toNatClampNeg (0 : Int32) then none else (if (lg_cmp (dp_J M5 245 (Int32.toNatClampNeg (0 : Int32))) (Int32.toInt64 r4)) = 0 then (D_L_law_6132 xs xl d v4 (some (.int r2)) (some (.int r4)) u7 M5) else (some (.inl (some (.int (0 : Int32))), M5)))) else (D_L_law_6132 xs xl d v4 (some (.int r2)) (some (.int r4)) u7 M5)) else (some (.inl (some (.int (0 : Int32))), M5))))))))) := by
  have hF := dp_den_grow (md := true) (xs := xs) (xl := xl) d
  unfold D_L_law_933
  refine dp_s1 hF (i := .aload_n 1) rfl (fun _ => rfl) ?_
  refine dp_s1 hF (i := .aload_n 0) rfl (fun _ => rfl) ?_
  refine dp_s1 hF (i := .iload 4) rfl (fun _ => rfl) ?_
  refine dp_s1 hF (i := .iconst 1) rfl (fun _ => rfl) ?_
  refine dp_s1 hF (i := .iadd) rfl (fun _ => rfl) ?_
  refine dp_s3 hF (i := .iaload) rfl (fun _ => rfl) ?_
  refine dp_s1 hF (i := .aload_n 0) rfl (fun _ => rfl) ?_
  refine dp_s1 hF (i := .iload 4) rfl (fun _ => rfl) ?_
  refine dp_s1 hF (i := .iconst 2) rfl (fun _ => rfl) ?_
  refine dp_s1 hF (i := .iadd) rfl (fun _ => rfl) ?_
  refine dp_s3 hF (i := .iaload) rfl (fun _ => rfl) ?_
  refine dp_s1 hF (i := .aload_n 3) rfl (fun _ => rfl) ?_
  refine dp_si (mj := dp_m_L_aboard) (i := .invokestatic 256) rfl rfl (Or.inl rfl) rfl (fun _ => rfl) (fun r2 M1 => ?_)
  refine dp_s1 hF (i := .istore 5) rfl (fun _ => rfl) ?_
  refine dp_s1 hF (i := .aload_n 2) rfl (fun _ => rfl) ?_
  refine dp_s1 hF (i := .aload_n 0) rfl (fun _ => rfl) ?_
  refine dp_s1 hF (i := .iload 4) rfl (fun _ => rfl) ?_
  refine dp_s1 hF (i := .iconst 1) rfl (fun _ => rfl) ?_
  refine dp_s1 hF (i := .iadd) rfl (fun _ => rfl) ?_
  refine dp_s3 hF (i := .iaload) rfl (fun _ => rfl) ?_
  refine dp_s1 hF (i := .aload_n 0) rfl (fun _ => rfl) ?_
  refine dp_s1 hF (i := .iload 4) rfl (fun _ => rfl) ?_
  refine dp_s1 hF (i := .iconst 2) rfl (fun _ => rfl) ?_
  refine dp_s1 hF (i := .iadd) rfl (fun _ => rfl) ?_
  refine dp_s3 hF (i := .iaload) rfl (fun _ => rfl) ?_
  refine dp_si (mj := dp_m_X12_aboard) (i := .invokevirtual 258) rfl rfl (Or.inl rfl) rfl (fun _ => rfl) (fun r4 M3 => ?_)
  refine dp_s1 hF (i := .istore 6) rfl (fun _ => rfl) ?_
  refine dp_s1 hF (i := .aload_n 2) rfl (fun _ => rfl) ?_
  refine dp_si (mj := dp_m_X12_thrown) (i := .invokevirtual 229) rfl rfl (Or.inl rfl) rfl (fun _ => rfl) (fun r6 M5 => ?_)
  refine dp_s1 hF (i := .iload 5) rfl (fun _ => rfl) ?_
  refine dp_s2 hF (i := .if_icmp .eq 5) (a := (981, [some (.retAddr 0), some (.ref 0), some (.ref 114), some (.ref 245), some (.int v4), some (.int r2), some (.int r4), u7], [], M5)) (b := (979, [some (.retAddr 0), some (.ref 0), some (.ref 114), some (.ref 245), some (.int v4), some (.int r2), some (.int r4), u7], [], M5)) rfl (fun _ => rfl) ?_ ?_
  · refine dp_s1 hF (i := .iload 5) rfl (fun _ => rfl) ?_
    refine dp_s2 hF (i := .ifCond .ne 15) (a := (986, [some (.retAddr 0), some (.ref 0), some (.ref 114), some (.ref 245), some (.int v4), some (.int r2), some (.int r4), u7], [], M5)) (b := (998, [some (.retAddr 0), some (.ref 0), some (.ref 114), some (.ref 245), some (.int v4), some (.int r2), some (.int r4), u7], [], M5)) rfl (fun _ => rfl) ?_ ?_
    · refine dp_s1 hF (i := .aload_n 3) rfl (fun _ => rfl) ?_
      refine dp_s1 hF (i := .iconst 0) rfl (fun _ => rfl) ?_
      refine dp_s3 hF (i := .laload) rfl (fun _ => rfl) ?_
      refine dp_s1 hF (i := .iload 6) rfl (fun _ => rfl) ?_
      refine dp_s1 hF (i := .i2l) rfl (fun _ => rfl) ?_
      refine dp_s1 hF (i := .lcmp) rfl (fun _ => rfl) ?_
      refine dp_s2 hF (i := .ifCond .eq 5) (a := (998, [some (.retAddr 0), some (.ref 0), some (.ref 114), some (.ref 245), some (.int v4), some (.int r2), some (.int r4), u7], [], M5)) (b := (996, [some (.retAddr 0), some (.ref 0), some (.ref 114), some (.ref 245), some (.int v4), some (.int r2), some (.int r4), u7], [], M5)) rfl (fun _ => rfl) ?_ ?_
      · refine dp_s1 hF (i := .goto 5134) rfl (fun _ => rfl) ?_
        exact rfl
      refine dp_s1 hF (i := .iconst 0) rfl (fun _ => rfl) ?_
      exact dp_s0 hF (i := .ireturn) rfl (fun _ => rfl)
    refine dp_s1 hF (i := .goto 5134) rfl (fun _ => rfl) ?_
    exact rfl
  refine dp_s1 hF (i := .iconst 0) rfl (fun _ => rfl) ?_
  exact dp_s0 hF (i := .ireturn) rfl (fun _ => rfl)
set_option maxRecDepth 20000 in
theorem D_L_law_1001_eq (xs : Nat → Int32) (xl d : Nat) (v4 : Int32) (u5 : Option Value) (u6 : Option Value) (u7 : Option Value) (M : dp_M) : D_L_law_1001 xs xl d v4 u5 u6 u7 M = if (v4 + (1 : Int32)) < 0 ∨ xl ≤ Int32.toNatClampNeg (v4 + (1 : Int32)) then none else (if (v4 + (2 : Int32)) < 0 ∨ xl ≤ Int32.toNatClampNeg (v4 + (2 : Int32)) then none else (dp_bi (dp_den true xs xl d 272 [.ref 0, .int (xs (Int32.toNatClampNeg (v4 + (1 : Int32)))), .int (xs (Int32.toNatClampNeg (v4 + (2 : Int32))))] M) (fun r2 M1 => if (v4 + (1 : Int32)) < 0 ∨ xl ≤ Int32.toNatClampNeg (v4 + (1 : Int32)) then none else (if (v4 + (2 : Int32)) < 0 ∨ xl ≤ Int32.toNatClampNeg (v4 + (2 : Int32)) then none else (dp_bi (dp_den true xs xl d 406 [.ref 114, .int (xs (Int32.toNatClampNeg (v4 + (1 : Int32)))), .int (xs (Int32.toNatClampNeg (v4 + (2 : Int32))))] M1) (fun r4 M3 => if r2 = r4 then (D_L_law_6132 xs xl d v4 u5 u6 u7 M3) else (some (.inl (some (.int (0 : Int32))), M3)))))))) := by
  have hF := dp_den_grow (md := true) (xs := xs) (xl := xl) d
  unfold D_L_law_1001
  refine dp_s1 hF (i := .aload_n 1) rfl (fun _ => rfl) ?_
  refine dp_s1 hF (i := .aload_n 0) rfl (fun _ => rfl) ?_
  refine dp_s1 hF (i := .iload 4) rfl (fun _ => rfl) ?_
  refine dp_s1 hF (i := .iconst 1) rfl (fun _ => rfl) ?_
  refine dp_s1 hF (i := .iadd) rfl (fun _ => rfl) ?_
  refine dp_s3 hF (i := .iaload) rfl (fun _ => rfl) ?_
  refine dp_s1 hF (i := .aload_n 0) rfl (fun _ => rfl) ?_
  refine dp_s1 hF (i := .iload 4) rfl (fun _ => rfl) ?_
  refine dp_s1 hF (i := .iconst 2) rfl (fun _ => rfl) ?_
  refine dp_s1 hF (i := .iadd) rfl (fun _ => rfl) ?_
  refine dp_s3 hF (i := .iaload) rfl (fun _ => rfl) ?_
  refine dp_si (mj := dp_m_X11_ground) (i := .invokevirtual 259) rfl rfl (Or.inr rfl) rfl (fun _ => rfl) (fun r2 M1 => ?_)
  refine dp_s1 hF (i := .aload_n 2) rfl (fun _ => rfl) ?_
  refine dp_s1 hF (i := .aload_n 0) rfl (fun _ => rfl) ?_
  refine dp_s1 hF (i := .iload 4) rfl (fun _ => rfl) ?_
  refine dp_s1 hF (i := .iconst 1) rfl (fun _ => rfl) ?_
  refine dp_s1 hF (i := .iadd) rfl (fun _ => rfl) ?_
  refine dp_s3 hF (i := .iaload) rfl (fun _ => rfl) ?_
  refine dp_s1 hF (i := .aload_n 0) rfl (fun _ => rfl) ?_
  refine dp_s1 hF (i := .iload 4) rfl (fun _ => rfl) ?_
  refine dp_s1 hF (i := .iconst 2) rfl (fun _ => rfl) ?_
  refine dp_s1 hF (i := .iadd) rfl (fun _ => rfl) ?_
  refine dp_s3 hF (i := .iaload) rfl (fun _ => rfl) ?_
  refine dp_si (mj := dp_m_X12_ground) (i := .invokevirtual 262) rfl rfl (Or.inr rfl) rfl (fun _ => rfl) (fun r4 M3 => ?_)
  refine dp_s2 hF (i := .if_icmp .eq 5099) (a := (6132, [some (.retAddr 0), some (.ref 0), some (.ref 114), some (.ref 245), some (.int v4), u5, u6, u7], [], M3)) (b := (1036, [some (.retAddr 0), some (.ref 0), some (.ref 114), some (.ref 245), some (.int v4), u5, u6, u7], [], M3)) rfl (fun _ => rfl) ?_ ?_
  · exact rfl
  refine dp_s1 hF (i := .iconst 0) rfl (fun _ => rfl) ?_
  exact dp_s0 hF (i := .ireturn) rfl (fun _ => rfl)
set_option maxRecDepth 20000 in
theorem D_L_law_1038_eq (xs : Nat → Int32) (xl d : Nat) (v4 : Int32) (u5 : Option Value) (u6 : Option Value) (u7 : Option Value) (M : dp_M) : D_L_law_1038 xs xl d v4 u5 u6 u7 M = if (v4 + (1 : Int32)) < 0 ∨ xl ≤ Int32.toNatClampNeg (v4 + (1 : Int32)) then none else (if (v4 + (2 : Int32)) < 0 ∨ xl ≤ Int32.toNatClampNeg (v4 + (2 : Int32)) then none else (dp_bi (dp_den true xs xl d 273 [.ref 0, .int (xs (Int32.toNatClampNeg (v4 + (1 : Int32)))), .int (xs (Int32.toNatClampNeg (v4 + (2 : Int32))))] M) (fun r2 M1 => if (v4 + (1 : Int32)) < 0 ∨ xl ≤ Int32.toNatClampNeg (v4 + (1 : Int32)) then none else (if (v4 + (2 : Int32)) < 0 ∨ xl ≤ Int32.toNatClampNeg (v4 + (2 : Int32)) then none else (dp_bi (dp_den true xs xl d 407 [.ref 114, .int (xs (Int32.toNatClampNeg (v4 + (1 : Int32)))), .int (xs (Int32.toNatClampNeg (v4 + (2 : Int32))))] M1) (fun r4 M3 => if r2 = r4 then (D_L_law_6132 xs xl d v4 u5 u6 u7 M3) else (some (.inl (some (.int (0 : Int32))), M3)))))))) := by
  have hF := dp_den_grow (md := true) (xs := xs) (xl := xl) d
  unfold D_L_law_1038
  refine dp_s1 hF (i := .aload_n 1) rfl (fun _ => rfl) ?_
  refine dp_s1 hF (i := .aload_n 0) rfl (fun _ => rfl) ?_
  refine dp_s1 hF (i := .iload 4) rfl (fun _ => rfl) ?_
  refine dp_s1 hF (i := .iconst 1) rfl (fun _ => rfl) ?_
  refine dp_s1 hF (i := .iadd) rfl (fun _ => rfl) ?_
  refine dp_s3 hF (i := .iaload) rfl (fun _ => rfl) ?_
  refine dp_s1 hF (i := .aload_n 0) rfl (fun _ => rfl) ?_
  refine dp_s1 hF (i := .iload 4) rfl (fun _ => rfl) ?_
  refine dp_s1 hF (i := .iconst 2) rfl (fun _ => rfl) ?_
  refine dp_s1 hF (i := .iadd) rfl (fun _ => rfl) ?_
  refine dp_s3 hF (i := .iaload) rfl (fun _ => rfl) ?_
  refine dp_si (mj := dp_m_X11_reserve) (i := .invokevirtual 263) rfl rfl (Or.inr rfl) rfl (fun _ => rfl) (fun r2 M1 => ?_)
  refine dp_s1 hF (i := .aload_n 2) rfl (fun _ => rfl) ?_
  refine dp_s1 hF (i := .aload_n 0) rfl (fun _ => rfl) ?_
  refine dp_s1 hF (i := .iload 4) rfl (fun _ => rfl) ?_
  refine dp_s1 hF (i := .iconst 1) rfl (fun _ => rfl) ?_
  refine dp_s1 hF (i := .iadd) rfl (fun _ => rfl) ?_
  refine dp_s3 hF (i := .iaload) rfl (fun _ => rfl) ?_
  refine dp_s1 hF (i := .aload_n 0) rfl (fun _ => rfl) ?_
  refine dp_s1 hF (i := .iload 4) rfl (fun _ => rfl) ?_
  refine dp_s1 hF (i := .iconst 2) rfl (fun _ => rfl) ?_
  refine dp_s1 hF (i := .iadd) rfl (fun _ => rfl) ?_
  refine dp_s3 hF (i := .iaload) rfl (fun _ => rfl) ?_
  refine dp_si (mj := dp_m_X12_reserve) (i := .invokevirtual 266) rfl rfl (Or.inr rfl) rfl (fun _ => rfl) (fun r4 M3 => ?_)
  refine dp_s2 hF (i := .if_icmp .eq 5062) (a := (6132, [some (.retAddr 0), some (.ref 0), some (.ref 114), some (.ref 245), some (.int v4), u5, u6, u7], [], M3)) (b := (1073, [some (.retAddr 0), some (.ref 0), some (.ref 114), some (.ref 245), some (.int v4), u5, u6, u7], [], M3)) rfl (fun _ => rfl) ?_ ?_
  · exact rfl
  refine dp_s1 hF (i := .iconst 0) rfl (fun _ => rfl) ?_
  exact dp_s0 hF (i := .ireturn) rfl (fun _ => rfl)
set_option maxRecDepth 20000 in
theorem D_L_law_1075_eq (xs : Nat → Int32) (xl d : Nat) (v4 : Int32) (u5 : Option Value) (u6 : Option Value) (u7 : Option Value) (M : dp_M) : D_L_law_1075 xs xl d v4 u5 u6 u7 M = if (v4 + (1 : Int32)) < 0 ∨ xl ≤ Int32.toNatClampNeg (v4 + (1 : Int32)) then none else (if (v4 + (2 : Int32)) < 0 ∨ xl ≤ Int32.toNatClampNeg (v4 + (2 : Int32)) then none else (dp_bi (dp_den true xs xl d 602 [.ref 0, .int (xs (Int32.toNatClampNeg (v4 + (1 : Int32)))), .int (xs (Int32.toNatClampNeg (v4 + (2 : Int32)))), .ref 245] M) (fun r2 M1 => if (v4 + (1 : Int32)) < 0 ∨ xl ≤ Int32.toNatClampNeg (v4 + (1 : Int32)) then none else (if (v4 + (2 : Int32)) < 0 ∨ xl ≤ Int32.toNatClampNeg (v4 + (2 : Int32)) then none else (dp_bi (dp_den true xs xl d 410 [.ref 114, .int (xs (Int32.toNatClampNeg (v4 + (1 : Int32)))), .int (xs (Int32.toNatClampNeg (v4 + (2 : Int32))))] M1) (fun r4 M3 => dp_bi (dp_den true xs xl d 365 [.ref 114] M3) (fun r6 M5 => if r6 = r2 then (if r2 = 0 then (if (0 : Int32) < 0 ∨ 1 ≤ Int32.toNatClampNeg (0 : Int32) then none else (if (lg_cmp (dp_J M5 245 (Int32.toNatClampNeg (0 : Int32))) (Int32.toInt64 r4)) = 0 then (D_L_law_6132 xs xl d v4 (some (.int r2)) (some (.int r4)) u7 M5) else (some (.inl (some (.int (0 : Int32))), M5)))) else (D_L_law_6132 xs xl d v4 (some (.int r2)) (some (.int r4)) u7 M5)) else (some (.inl (some (.int (0 : Int32))), M5))))))))) := by
  have hF := dp_den_grow (md := true) (xs := xs) (xl := xl) d
  unfold D_L_law_1075
  refine dp_s1 hF (i := .aload_n 1) rfl (fun _ => rfl) ?_
  refine dp_s1 hF (i := .aload_n 0) rfl (fun _ => rfl) ?_
  refine dp_s1 hF (i := .iload 4) rfl (fun _ => rfl) ?_
  refine dp_s1 hF (i := .iconst 1) rfl (fun _ => rfl) ?_
  refine dp_s1 hF (i := .iadd) rfl (fun _ => rfl) ?_
  refine dp_s3 hF (i := .iaload) rfl (fun _ => rfl) ?_
  refine dp_s1 hF (i := .aload_n 0) rfl (fun _ => rfl) ?_
  refine dp_s1 hF (i := .iload 4) rfl (fun _ => rfl) ?_
  refine dp_s1 hF (i := .iconst 2) rfl (fun _ => rfl) ?_
  refine dp_s1 hF (i := .iadd) rfl (fun _ => rfl) ?_
  refine dp_s3 hF (i := .iaload) rfl (fun _ => rfl) ?_
  refine dp_s1 hF (i := .aload_n 3) rfl (fun _ => rfl) ?_
  refine dp_si (mj := dp_m_L_put) (i := .invokestatic 267) rfl rfl (Or.inl rfl) rfl (fun _ => rfl) (fun r2 M1 => ?_)
  refine dp_s1 hF (i := .istore 5) rfl (fun _ => rfl) ?_
  refine dp_s1 hF (i := .aload_n 2) rfl (fun _ => rfl) ?_
  refine dp_s1 hF (i := .aload_n 0) rfl (fun _ => rfl) ?_
  refine dp_s1 hF (i := .iload 4) rfl (fun _ => rfl) ?_
  refine dp_s1 hF (i := .iconst 1) rfl (fun _ => rfl) ?_
  refine dp_s1 hF (i := .iadd) rfl (fun _ => rfl) ?_
  refine dp_s3 hF (i := .iaload) rfl (fun _ => rfl) ?_
  refine dp_s1 hF (i := .aload_n 0) rfl (fun _ => rfl) ?_
  refine dp_s1 hF (i := .iload 4) rfl (fun _ => rfl) ?_
  refine dp_s1 hF (i := .iconst 2) rfl (fun _ => rfl) ?_
  refine dp_s1 hF (i := .iadd) rfl (fun _ => rfl) ?_
  refine dp_s3 hF (i := .iaload) rfl (fun _ => rfl) ?_
  refine dp_si (mj := dp_m_X12_put) (i := .invokevirtual 269) rfl rfl (Or.inl rfl) rfl (fun _ => rfl) (fun r4 M3 => ?_)
  refine dp_s1 hF (i := .istore 6) rfl (fun _ => rfl) ?_
  refine dp_s1 hF (i := .aload_n 2) rfl (fun _ => rfl) ?_
  refine dp_si (mj := dp_m_X12_thrown) (i := .invokevirtual 229) rfl rfl (Or.inl rfl) rfl (fun _ => rfl) (fun r6 M5 => ?_)
  refine dp_s1 hF (i := .iload 5) rfl (fun _ => rfl) ?_
  refine dp_s2 hF (i := .if_icmp .eq 5) (a := (1123, [some (.retAddr 0), some (.ref 0), some (.ref 114), some (.ref 245), some (.int v4), some (.int r2), some (.int r4), u7], [], M5)) (b := (1121, [some (.retAddr 0), some (.ref 0), some (.ref 114), some (.ref 245), some (.int v4), some (.int r2), some (.int r4), u7], [], M5)) rfl (fun _ => rfl) ?_ ?_
  · refine dp_s1 hF (i := .iload 5) rfl (fun _ => rfl) ?_
    refine dp_s2 hF (i := .ifCond .ne 15) (a := (1128, [some (.retAddr 0), some (.ref 0), some (.ref 114), some (.ref 245), some (.int v4), some (.int r2), some (.int r4), u7], [], M5)) (b := (1140, [some (.retAddr 0), some (.ref 0), some (.ref 114), some (.ref 245), some (.int v4), some (.int r2), some (.int r4), u7], [], M5)) rfl (fun _ => rfl) ?_ ?_
    · refine dp_s1 hF (i := .aload_n 3) rfl (fun _ => rfl) ?_
      refine dp_s1 hF (i := .iconst 0) rfl (fun _ => rfl) ?_
      refine dp_s3 hF (i := .laload) rfl (fun _ => rfl) ?_
      refine dp_s1 hF (i := .iload 6) rfl (fun _ => rfl) ?_
      refine dp_s1 hF (i := .i2l) rfl (fun _ => rfl) ?_
      refine dp_s1 hF (i := .lcmp) rfl (fun _ => rfl) ?_
      refine dp_s2 hF (i := .ifCond .eq 5) (a := (1140, [some (.retAddr 0), some (.ref 0), some (.ref 114), some (.ref 245), some (.int v4), some (.int r2), some (.int r4), u7], [], M5)) (b := (1138, [some (.retAddr 0), some (.ref 0), some (.ref 114), some (.ref 245), some (.int v4), some (.int r2), some (.int r4), u7], [], M5)) rfl (fun _ => rfl) ?_ ?_
      · refine dp_s1 hF (i := .goto 4992) rfl (fun _ => rfl) ?_
        exact rfl
      refine dp_s1 hF (i := .iconst 0) rfl (fun _ => rfl) ?_
      exact dp_s0 hF (i := .ireturn) rfl (fun _ => rfl)
    refine dp_s1 hF (i := .goto 4992) rfl (fun _ => rfl) ?_
    exact rfl
  refine dp_s1 hF (i := .iconst 0) rfl (fun _ => rfl) ?_
  exact dp_s0 hF (i := .ireturn) rfl (fun _ => rfl)
set_option maxRecDepth 20000 in
theorem D_L_law_1143_eq (xs : Nat → Int32) (xl d : Nat) (v4 : Int32) (u5 : Option Value) (u6 : Option Value) (u7 : Option Value) (M : dp_M) : D_L_law_1143 xs xl d v4 u5 u6 u7 M = if (v4 + (1 : Int32)) < 0 ∨ xl ≤ Int32.toNatClampNeg (v4 + (1 : Int32)) then none else (dp_bi (dp_den true xs xl d 603 [.ref 0, .int (xs (Int32.toNatClampNeg (v4 + (1 : Int32)))), .ref 245] M) (fun r2 M1 => if (v4 + (1 : Int32)) < 0 ∨ xl ≤ Int32.toNatClampNeg (v4 + (1 : Int32)) then none else (dp_bi (dp_den true xs xl d 411 [.ref 114, .int (xs (Int32.toNatClampNeg (v4 + (1 : Int32))))] M1) (fun r4 M3 => dp_bi (dp_den true xs xl d 365 [.ref 114] M3) (fun r6 M5 => if r6 = r2 then (if r2 = 0 then (if (0 : Int32) < 0 ∨ 1 ≤ Int32.toNatClampNeg (0 : Int32) then none else (if (lg_cmp (dp_J M5 245 (Int32.toNatClampNeg (0 : Int32))) (Int32.toInt64 r4)) = 0 then (D_L_law_6132 xs xl d v4 (some (.int r2)) (some (.int r4)) u7 M5) else (some (.inl (some (.int (0 : Int32))), M5)))) else (D_L_law_6132 xs xl d v4 (some (.int r2)) (some (.int r4)) u7 M5)) else (some (.inl (some (.int (0 : Int32))), M5))))))) := by
  have hF := dp_den_grow (md := true) (xs := xs) (xl := xl) d
  unfold D_L_law_1143
  refine dp_s1 hF (i := .aload_n 1) rfl (fun _ => rfl) ?_
  refine dp_s1 hF (i := .aload_n 0) rfl (fun _ => rfl) ?_
  refine dp_s1 hF (i := .iload 4) rfl (fun _ => rfl) ?_
  refine dp_s1 hF (i := .iconst 1) rfl (fun _ => rfl) ?_
  refine dp_s1 hF (i := .iadd) rfl (fun _ => rfl) ?_
  refine dp_s3 hF (i := .iaload) rfl (fun _ => rfl) ?_
  refine dp_s1 hF (i := .aload_n 3) rfl (fun _ => rfl) ?_
  refine dp_si (mj := dp_m_L_take) (i := .invokestatic 270) rfl rfl (Or.inl rfl) rfl (fun _ => rfl) (fun r2 M1 => ?_)
  refine dp_s1 hF (i := .istore 5) rfl (fun _ => rfl) ?_
  refine dp_s1 hF (i := .aload_n 2) rfl (fun _ => rfl) ?_
  refine dp_s1 hF (i := .aload_n 0) rfl (fun _ => rfl) ?_
  refine dp_s1 hF (i := .iload 4) rfl (fun _ => rfl) ?_
  refine dp_s1 hF (i := .iconst 1) rfl (fun _ => rfl) ?_
  refine dp_s1 hF (i := .iadd) rfl (fun _ => rfl) ?_
  refine dp_s3 hF (i := .iaload) rfl (fun _ => rfl) ?_
  refine dp_si (mj := dp_m_X12_take) (i := .invokevirtual 272) rfl rfl (Or.inl rfl) rfl (fun _ => rfl) (fun r4 M3 => ?_)
  refine dp_s1 hF (i := .istore 6) rfl (fun _ => rfl) ?_
  refine dp_s1 hF (i := .aload_n 2) rfl (fun _ => rfl) ?_
  refine dp_si (mj := dp_m_X12_thrown) (i := .invokevirtual 229) rfl rfl (Or.inl rfl) rfl (fun _ => rfl) (fun r6 M5 => ?_)
  refine dp_s1 hF (i := .iload 5) rfl (fun _ => rfl) ?_
  refine dp_s2 hF (i := .if_icmp .eq 5) (a := (1179, [some (.retAddr 0), some (.ref 0), some (.ref 114), some (.ref 245), some (.int v4), some (.int r2), some (.int r4), u7], [], M5)) (b := (1177, [some (.retAddr 0), some (.ref 0), some (.ref 114), some (.ref 245), some (.int v4), some (.int r2), some (.int r4), u7], [], M5)) rfl (fun _ => rfl) ?_ ?_
  · refine dp_s1 hF (i := .iload 5) rfl (fun _ => rfl) ?_
    refine dp_s2 hF (i := .ifCond .ne 15) (a := (1184, [some (.retAddr 0), some (.ref 0), some (.ref 114), some (.ref 245), some (.int v4), some (.int r2), some (.int r4), u7], [], M5)) (b := (1196, [some (.retAddr 0), some (.ref 0), some (.ref 114), some (.ref 245), some (.int v4), some (.int r2), some (.int r4), u7], [], M5)) rfl (fun _ => rfl) ?_ ?_
    · refine dp_s1 hF (i := .aload_n 3) rfl (fun _ => rfl) ?_
      refine dp_s1 hF (i := .iconst 0) rfl (fun _ => rfl) ?_
      refine dp_s3 hF (i := .laload) rfl (fun _ => rfl) ?_
      refine dp_s1 hF (i := .iload 6) rfl (fun _ => rfl) ?_
      refine dp_s1 hF (i := .i2l) rfl (fun _ => rfl) ?_
      refine dp_s1 hF (i := .lcmp) rfl (fun _ => rfl) ?_
      refine dp_s2 hF (i := .ifCond .eq 5) (a := (1196, [some (.retAddr 0), some (.ref 0), some (.ref 114), some (.ref 245), some (.int v4), some (.int r2), some (.int r4), u7], [], M5)) (b := (1194, [some (.retAddr 0), some (.ref 0), some (.ref 114), some (.ref 245), some (.int v4), some (.int r2), some (.int r4), u7], [], M5)) rfl (fun _ => rfl) ?_ ?_
      · refine dp_s1 hF (i := .goto 4936) rfl (fun _ => rfl) ?_
        exact rfl
      refine dp_s1 hF (i := .iconst 0) rfl (fun _ => rfl) ?_
      exact dp_s0 hF (i := .ireturn) rfl (fun _ => rfl)
    refine dp_s1 hF (i := .goto 4936) rfl (fun _ => rfl) ?_
    exact rfl
  refine dp_s1 hF (i := .iconst 0) rfl (fun _ => rfl) ?_
  exact dp_s0 hF (i := .ireturn) rfl (fun _ => rfl)
set_option maxRecDepth 20000 in
theorem D_L_law_1199_eq (xs : Nat → Int32) (xl d : Nat) (v4 : Int32) (u5 : Option Value) (u6 : Option Value) (u7 : Option Value) (M : dp_M) : D_L_law_1199 xs xl d v4 u5 u6 u7 M = if (v4 + (1 : Int32)) < 0 ∨ xl ≤ Int32.toNatClampNeg (v4 + (1 : Int32)) then none else (if (v4 + (2 : Int32)) < 0 ∨ xl ≤ Int32.toNatClampNeg (v4 + (2 : Int32)) then none else (dp_bi (dp_den true xs xl d 604 [.ref 0, .int (xs (Int32.toNatClampNeg (v4 + (1 : Int32)))), .int (xs (Int32.toNatClampNeg (v4 + (2 : Int32)))), .ref 245] M) (fun r2 M1 => if (v4 + (1 : Int32)) < 0 ∨ xl ≤ Int32.toNatClampNeg (v4 + (1 : Int32)) then none else (if (v4 + (2 : Int32)) < 0 ∨ xl ≤ Int32.toNatClampNeg (v4 + (2 : Int32)) then none else (dp_bi (dp_den true xs xl d 412 [.ref 114, .int (xs (Int32.toNatClampNeg (v4 + (1 : Int32)))), .int (xs (Int32.toNatClampNeg (v4 + (2 : Int32))))] M1) (fun r4 M3 => dp_bi (dp_den true xs xl d 365 [.ref 114] M3) (fun r6 M5 => if r6 = r2 then (if r2 = 0 then (if (0 : Int32) < 0 ∨ 1 ≤ Int32.toNatClampNeg (0 : Int32) then none else (if (lg_cmp (dp_J M5 245 (Int32.toNatClampNeg (0 : Int32))) (Int32.toInt64 r4)) = 0 then (D_L_law_6132 xs xl d v4 (some (.int r2)) (some (.int r4)) u7 M5) else (some (.inl (some (.int (0 : Int32))), M5)))) else (D_L_law_6132 xs xl d v4 (some (.int r2)) (some (.int r4)) u7 M5)) else (some (.inl (some (.int (0 : Int32))), M5))))))))) := by
  have hF := dp_den_grow (md := true) (xs := xs) (xl := xl) d
  unfold D_L_law_1199
  refine dp_s1 hF (i := .aload_n 1) rfl (fun _ => rfl) ?_
  refine dp_s1 hF (i := .aload_n 0) rfl (fun _ => rfl) ?_
  refine dp_s1 hF (i := .iload 4) rfl (fun _ => rfl) ?_
  refine dp_s1 hF (i := .iconst 1) rfl (fun _ => rfl) ?_
  refine dp_s1 hF (i := .iadd) rfl (fun _ => rfl) ?_
  refine dp_s3 hF (i := .iaload) rfl (fun _ => rfl) ?_
  refine dp_s1 hF (i := .aload_n 0) rfl (fun _ => rfl) ?_
  refine dp_s1 hF (i := .iload 4) rfl (fun _ => rfl) ?_
  refine dp_s1 hF (i := .iconst 2) rfl (fun _ => rfl) ?_
  refine dp_s1 hF (i := .iadd) rfl (fun _ => rfl) ?_
  refine dp_s3 hF (i := .iaload) rfl (fun _ => rfl) ?_
  refine dp_s1 hF (i := .aload_n 3) rfl (fun _ => rfl) ?_
  refine dp_si (mj := dp_m_L_shift) (i := .invokestatic 273) rfl rfl (Or.inl rfl) rfl (fun _ => rfl) (fun r2 M1 => ?_)
  refine dp_s1 hF (i := .istore 5) rfl (fun _ => rfl) ?_
  refine dp_s1 hF (i := .aload_n 2) rfl (fun _ => rfl) ?_
  refine dp_s1 hF (i := .aload_n 0) rfl (fun _ => rfl) ?_
  refine dp_s1 hF (i := .iload 4) rfl (fun _ => rfl) ?_
  refine dp_s1 hF (i := .iconst 1) rfl (fun _ => rfl) ?_
  refine dp_s1 hF (i := .iadd) rfl (fun _ => rfl) ?_
  refine dp_s3 hF (i := .iaload) rfl (fun _ => rfl) ?_
  refine dp_s1 hF (i := .aload_n 0) rfl (fun _ => rfl) ?_
  refine dp_s1 hF (i := .iload 4) rfl (fun _ => rfl) ?_
  refine dp_s1 hF (i := .iconst 2) rfl (fun _ => rfl) ?_
  refine dp_s1 hF (i := .iadd) rfl (fun _ => rfl) ?_
  refine dp_s3 hF (i := .iaload) rfl (fun _ => rfl) ?_
  refine dp_si (mj := dp_m_X12_shift) (i := .invokevirtual 275) rfl rfl (Or.inl rfl) rfl (fun _ => rfl) (fun r4 M3 => ?_)
  refine dp_s1 hF (i := .istore 6) rfl (fun _ => rfl) ?_
  refine dp_s1 hF (i := .aload_n 2) rfl (fun _ => rfl) ?_
  refine dp_si (mj := dp_m_X12_thrown) (i := .invokevirtual 229) rfl rfl (Or.inl rfl) rfl (fun _ => rfl) (fun r6 M5 => ?_)
  refine dp_s1 hF (i := .iload 5) rfl (fun _ => rfl) ?_
  refine dp_s2 hF (i := .if_icmp .eq 5) (a := (1247, [some (.retAddr 0), some (.ref 0), some (.ref 114), some (.ref 245), some (.int v4), some (.int r2), some (.int r4), u7], [], M5)) (b := (1245, [some (.retAddr 0), some (.ref 0), some (.ref 114), some (.ref 245), some (.int v4), some (.int r2), some (.int r4), u7], [], M5)) rfl (fun _ => rfl) ?_ ?_
  · refine dp_s1 hF (i := .iload 5) rfl (fun _ => rfl) ?_
    refine dp_s2 hF (i := .ifCond .ne 15) (a := (1252, [some (.retAddr 0), some (.ref 0), some (.ref 114), some (.ref 245), some (.int v4), some (.int r2), some (.int r4), u7], [], M5)) (b := (1264, [some (.retAddr 0), some (.ref 0), some (.ref 114), some (.ref 245), some (.int v4), some (.int r2), some (.int r4), u7], [], M5)) rfl (fun _ => rfl) ?_ ?_
    · refine dp_s1 hF (i := .aload_n 3) rfl (fun _ => rfl) ?_
      refine dp_s1 hF (i := .iconst 0) rfl (fun _ => rfl) ?_
      refine dp_s3 hF (i := .laload) rfl (fun _ => rfl) ?_
      refine dp_s1 hF (i := .iload 6) rfl (fun _ => rfl) ?_
      refine dp_s1 hF (i := .i2l) rfl (fun _ => rfl) ?_
      refine dp_s1 hF (i := .lcmp) rfl (fun _ => rfl) ?_
      refine dp_s2 hF (i := .ifCond .eq 5) (a := (1264, [some (.retAddr 0), some (.ref 0), some (.ref 114), some (.ref 245), some (.int v4), some (.int r2), some (.int r4), u7], [], M5)) (b := (1262, [some (.retAddr 0), some (.ref 0), some (.ref 114), some (.ref 245), some (.int v4), some (.int r2), some (.int r4), u7], [], M5)) rfl (fun _ => rfl) ?_ ?_
      · refine dp_s1 hF (i := .goto 4868) rfl (fun _ => rfl) ?_
        exact rfl
      refine dp_s1 hF (i := .iconst 0) rfl (fun _ => rfl) ?_
      exact dp_s0 hF (i := .ireturn) rfl (fun _ => rfl)
    refine dp_s1 hF (i := .goto 4868) rfl (fun _ => rfl) ?_
    exact rfl
  refine dp_s1 hF (i := .iconst 0) rfl (fun _ => rfl) ?_
  exact dp_s0 hF (i := .ireturn) rfl (fun _ => rfl)
set_option maxRecDepth 20000 in
theorem D_L_law_1267_eq (xs : Nat → Int32) (xl d : Nat) (v4 : Int32) (u5 : Option Value) (u6 : Option Value) (u7 : Option Value) (M : dp_M) : D_L_law_1267 xs xl d v4 u5 u6 u7 M = if (v4 + (1 : Int32)) < 0 ∨ xl ≤ Int32.toNatClampNeg (v4 + (1 : Int32)) then none else (dp_bi (dp_den true xs xl d 605 [.ref 0, .int (xs (Int32.toNatClampNeg (v4 + (1 : Int32)))), .ref 245] M) (fun r2 M1 => if (v4 + (1 : Int32)) < 0 ∨ xl ≤ Int32.toNatClampNeg (v4 + (1 : Int32)) then none else (dp_bi (dp_den true xs xl d 413 [.ref 114, .int (xs (Int32.toNatClampNeg (v4 + (1 : Int32))))] M1) (fun r4 M3 => dp_bi (dp_den true xs xl d 365 [.ref 114] M3) (fun r6 M5 => if r6 = r2 then (if r2 = 0 then (if (0 : Int32) < 0 ∨ 1 ≤ Int32.toNatClampNeg (0 : Int32) then none else (if (lg_cmp (dp_J M5 245 (Int32.toNatClampNeg (0 : Int32))) (Int32.toInt64 r4)) = 0 then (D_L_law_6132 xs xl d v4 (some (.int r2)) (some (.int r4)) u7 M5) else (some (.inl (some (.int (0 : Int32))), M5)))) else (D_L_law_6132 xs xl d v4 (some (.int r2)) (some (.int r4)) u7 M5)) else (some (.inl (some (.int (0 : Int32))), M5))))))) := by
  have hF := dp_den_grow (md := true) (xs := xs) (xl := xl) d
  unfold D_L_law_1267
  refine dp_s1 hF (i := .aload_n 1) rfl (fun _ => rfl) ?_
  refine dp_s1 hF (i := .aload_n 0) rfl (fun _ => rfl) ?_
  refine dp_s1 hF (i := .iload 4) rfl (fun _ => rfl) ?_
  refine dp_s1 hF (i := .iconst 1) rfl (fun _ => rfl) ?_
  refine dp_s1 hF (i := .iadd) rfl (fun _ => rfl) ?_
  refine dp_s3 hF (i := .iaload) rfl (fun _ => rfl) ?_
  refine dp_s1 hF (i := .aload_n 3) rfl (fun _ => rfl) ?_
  refine dp_si (mj := dp_m_L_choose) (i := .invokestatic 276) rfl rfl (Or.inl rfl) rfl (fun _ => rfl) (fun r2 M1 => ?_)
  refine dp_s1 hF (i := .istore 5) rfl (fun _ => rfl) ?_
  refine dp_s1 hF (i := .aload_n 2) rfl (fun _ => rfl) ?_
  refine dp_s1 hF (i := .aload_n 0) rfl (fun _ => rfl) ?_
  refine dp_s1 hF (i := .iload 4) rfl (fun _ => rfl) ?_
  refine dp_s1 hF (i := .iconst 1) rfl (fun _ => rfl) ?_
  refine dp_s1 hF (i := .iadd) rfl (fun _ => rfl) ?_
  refine dp_s3 hF (i := .iaload) rfl (fun _ => rfl) ?_
  refine dp_si (mj := dp_m_X12_choose) (i := .invokevirtual 278) rfl rfl (Or.inl rfl) rfl (fun _ => rfl) (fun r4 M3 => ?_)
  refine dp_s1 hF (i := .istore 6) rfl (fun _ => rfl) ?_
  refine dp_s1 hF (i := .aload_n 2) rfl (fun _ => rfl) ?_
  refine dp_si (mj := dp_m_X12_thrown) (i := .invokevirtual 229) rfl rfl (Or.inl rfl) rfl (fun _ => rfl) (fun r6 M5 => ?_)
  refine dp_s1 hF (i := .iload 5) rfl (fun _ => rfl) ?_
  refine dp_s2 hF (i := .if_icmp .eq 5) (a := (1303, [some (.retAddr 0), some (.ref 0), some (.ref 114), some (.ref 245), some (.int v4), some (.int r2), some (.int r4), u7], [], M5)) (b := (1301, [some (.retAddr 0), some (.ref 0), some (.ref 114), some (.ref 245), some (.int v4), some (.int r2), some (.int r4), u7], [], M5)) rfl (fun _ => rfl) ?_ ?_
  · refine dp_s1 hF (i := .iload 5) rfl (fun _ => rfl) ?_
    refine dp_s2 hF (i := .ifCond .ne 15) (a := (1308, [some (.retAddr 0), some (.ref 0), some (.ref 114), some (.ref 245), some (.int v4), some (.int r2), some (.int r4), u7], [], M5)) (b := (1320, [some (.retAddr 0), some (.ref 0), some (.ref 114), some (.ref 245), some (.int v4), some (.int r2), some (.int r4), u7], [], M5)) rfl (fun _ => rfl) ?_ ?_
    · refine dp_s1 hF (i := .aload_n 3) rfl (fun _ => rfl) ?_
      refine dp_s1 hF (i := .iconst 0) rfl (fun _ => rfl) ?_
      refine dp_s3 hF (i := .laload) rfl (fun _ => rfl) ?_
      refine dp_s1 hF (i := .iload 6) rfl (fun _ => rfl) ?_
      refine dp_s1 hF (i := .i2l) rfl (fun _ => rfl) ?_
      refine dp_s1 hF (i := .lcmp) rfl (fun _ => rfl) ?_
      refine dp_s2 hF (i := .ifCond .eq 5) (a := (1320, [some (.retAddr 0), some (.ref 0), some (.ref 114), some (.ref 245), some (.int v4), some (.int r2), some (.int r4), u7], [], M5)) (b := (1318, [some (.retAddr 0), some (.ref 0), some (.ref 114), some (.ref 245), some (.int v4), some (.int r2), some (.int r4), u7], [], M5)) rfl (fun _ => rfl) ?_ ?_
      · refine dp_s1 hF (i := .goto 4812) rfl (fun _ => rfl) ?_
        exact rfl
      refine dp_s1 hF (i := .iconst 0) rfl (fun _ => rfl) ?_
      exact dp_s0 hF (i := .ireturn) rfl (fun _ => rfl)
    refine dp_s1 hF (i := .goto 4812) rfl (fun _ => rfl) ?_
    exact rfl
  refine dp_s1 hF (i := .iconst 0) rfl (fun _ => rfl) ?_
  exact dp_s0 hF (i := .ireturn) rfl (fun _ => rfl)
set_option maxRecDepth 20000 in
theorem D_L_law_1323_eq (xs : Nat → Int32) (xl d : Nat) (v4 : Int32) (u5 : Option Value) (u6 : Option Value) (u7 : Option Value) (M : dp_M) : D_L_law_1323 xs xl d v4 u5 u6 u7 M = if (v4 + (1 : Int32)) < 0 ∨ xl ≤ Int32.toNatClampNeg (v4 + (1 : Int32)) then none else (dp_bi (dp_den true xs xl d 606 [.ref 0, .int (xs (Int32.toNatClampNeg (v4 + (1 : Int32)))), .ref 245] M) (fun r2 M1 => if (v4 + (1 : Int32)) < 0 ∨ xl ≤ Int32.toNatClampNeg (v4 + (1 : Int32)) then none else (dp_bi (dp_den true xs xl d 416 [.ref 114, .int (xs (Int32.toNatClampNeg (v4 + (1 : Int32))))] M1) (fun r4 M3 => dp_bi (dp_den true xs xl d 365 [.ref 114] M3) (fun r6 M5 => if r6 = r2 then (if r2 = 0 then (if (0 : Int32) < 0 ∨ 1 ≤ Int32.toNatClampNeg (0 : Int32) then none else (if (lg_cmp (dp_J M5 245 (Int32.toNatClampNeg (0 : Int32))) (Int32.toInt64 r4)) = 0 then (D_L_law_6132 xs xl d v4 (some (.int r2)) (some (.int r4)) u7 M5) else (some (.inl (some (.int (0 : Int32))), M5)))) else (D_L_law_6132 xs xl d v4 (some (.int r2)) (some (.int r4)) u7 M5)) else (some (.inl (some (.int (0 : Int32))), M5))))))) := by
  have hF := dp_den_grow (md := true) (xs := xs) (xl := xl) d
  unfold D_L_law_1323
  refine dp_s1 hF (i := .aload_n 1) rfl (fun _ => rfl) ?_
  refine dp_s1 hF (i := .aload_n 0) rfl (fun _ => rfl) ?_
  refine dp_s1 hF (i := .iload 4) rfl (fun _ => rfl) ?_
  refine dp_s1 hF (i := .iconst 1) rfl (fun _ => rfl) ?_
  refine dp_s1 hF (i := .iadd) rfl (fun _ => rfl) ?_
  refine dp_s3 hF (i := .iaload) rfl (fun _ => rfl) ?_
  refine dp_s1 hF (i := .aload_n 3) rfl (fun _ => rfl) ?_
  refine dp_si (mj := dp_m_L_night) (i := .invokestatic 279) rfl rfl (Or.inl rfl) rfl (fun _ => rfl) (fun r2 M1 => ?_)
  refine dp_s1 hF (i := .istore 5) rfl (fun _ => rfl) ?_
  refine dp_s1 hF (i := .aload_n 2) rfl (fun _ => rfl) ?_
  refine dp_s1 hF (i := .aload_n 0) rfl (fun _ => rfl) ?_
  refine dp_s1 hF (i := .iload 4) rfl (fun _ => rfl) ?_
  refine dp_s1 hF (i := .iconst 1) rfl (fun _ => rfl) ?_
  refine dp_s1 hF (i := .iadd) rfl (fun _ => rfl) ?_
  refine dp_s3 hF (i := .iaload) rfl (fun _ => rfl) ?_
  refine dp_si (mj := dp_m_X12_night) (i := .invokevirtual 281) rfl rfl (Or.inl rfl) rfl (fun _ => rfl) (fun r4 M3 => ?_)
  refine dp_s1 hF (i := .istore 6) rfl (fun _ => rfl) ?_
  refine dp_s1 hF (i := .aload_n 2) rfl (fun _ => rfl) ?_
  refine dp_si (mj := dp_m_X12_thrown) (i := .invokevirtual 229) rfl rfl (Or.inl rfl) rfl (fun _ => rfl) (fun r6 M5 => ?_)
  refine dp_s1 hF (i := .iload 5) rfl (fun _ => rfl) ?_
  refine dp_s2 hF (i := .if_icmp .eq 5) (a := (1359, [some (.retAddr 0), some (.ref 0), some (.ref 114), some (.ref 245), some (.int v4), some (.int r2), some (.int r4), u7], [], M5)) (b := (1357, [some (.retAddr 0), some (.ref 0), some (.ref 114), some (.ref 245), some (.int v4), some (.int r2), some (.int r4), u7], [], M5)) rfl (fun _ => rfl) ?_ ?_
  · refine dp_s1 hF (i := .iload 5) rfl (fun _ => rfl) ?_
    refine dp_s2 hF (i := .ifCond .ne 15) (a := (1364, [some (.retAddr 0), some (.ref 0), some (.ref 114), some (.ref 245), some (.int v4), some (.int r2), some (.int r4), u7], [], M5)) (b := (1376, [some (.retAddr 0), some (.ref 0), some (.ref 114), some (.ref 245), some (.int v4), some (.int r2), some (.int r4), u7], [], M5)) rfl (fun _ => rfl) ?_ ?_
    · refine dp_s1 hF (i := .aload_n 3) rfl (fun _ => rfl) ?_
      refine dp_s1 hF (i := .iconst 0) rfl (fun _ => rfl) ?_
      refine dp_s3 hF (i := .laload) rfl (fun _ => rfl) ?_
      refine dp_s1 hF (i := .iload 6) rfl (fun _ => rfl) ?_
      refine dp_s1 hF (i := .i2l) rfl (fun _ => rfl) ?_
      refine dp_s1 hF (i := .lcmp) rfl (fun _ => rfl) ?_
      refine dp_s2 hF (i := .ifCond .eq 5) (a := (1376, [some (.retAddr 0), some (.ref 0), some (.ref 114), some (.ref 245), some (.int v4), some (.int r2), some (.int r4), u7], [], M5)) (b := (1374, [some (.retAddr 0), some (.ref 0), some (.ref 114), some (.ref 245), some (.int v4), some (.int r2), some (.int r4), u7], [], M5)) rfl (fun _ => rfl) ?_ ?_
      · refine dp_s1 hF (i := .goto 4756) rfl (fun _ => rfl) ?_
        exact rfl
      refine dp_s1 hF (i := .iconst 0) rfl (fun _ => rfl) ?_
      exact dp_s0 hF (i := .ireturn) rfl (fun _ => rfl)
    refine dp_s1 hF (i := .goto 4756) rfl (fun _ => rfl) ?_
    exact rfl
  refine dp_s1 hF (i := .iconst 0) rfl (fun _ => rfl) ?_
  exact dp_s0 hF (i := .ireturn) rfl (fun _ => rfl)
set_option maxRecDepth 20000 in
theorem D_L_law_1379_eq (xs : Nat → Int32) (xl d : Nat) (v4 : Int32) (u5 : Option Value) (u6 : Option Value) (u7 : Option Value) (M : dp_M) : D_L_law_1379 xs xl d v4 u5 u6 u7 M = dp_bi (dp_den true xs xl d 279 [.ref 0] M) (fun r2 M1 => dp_bi (dp_den true xs xl d 417 [.ref 114] M1) (fun r4 M3 => if r2 = r4 then (D_L_law_6132 xs xl d v4 u5 u6 u7 M3) else (some (.inl (some (.int (0 : Int32))), M3)))) := by
  have hF := dp_den_grow (md := true) (xs := xs) (xl := xl) d
  unfold D_L_law_1379
  refine dp_s1 hF (i := .aload_n 1) rfl (fun _ => rfl) ?_
  refine dp_si (mj := dp_m_X11_undo) (i := .invokevirtual 282) rfl rfl (Or.inl rfl) rfl (fun _ => rfl) (fun r2 M1 => ?_)
  refine dp_s1 hF (i := .aload_n 2) rfl (fun _ => rfl) ?_
  refine dp_si (mj := dp_m_X12_undo) (i := .invokevirtual 285) rfl rfl (Or.inl rfl) rfl (fun _ => rfl) (fun r4 M3 => ?_)
  refine dp_s2 hF (i := .if_icmp .eq 4745) (a := (6132, [some (.retAddr 0), some (.ref 0), some (.ref 114), some (.ref 245), some (.int v4), u5, u6, u7], [], M3)) (b := (1390, [some (.retAddr 0), some (.ref 0), some (.ref 114), some (.ref 245), some (.int v4), u5, u6, u7], [], M3)) rfl (fun _ => rfl) ?_ ?_
  · exact rfl
  refine dp_s1 hF (i := .iconst 0) rfl (fun _ => rfl) ?_
  exact dp_s0 hF (i := .ireturn) rfl (fun _ => rfl)
set_option maxRecDepth 20000 in
theorem D_L_law_1392_eq (xs : Nat → Int32) (xl d : Nat) (v4 : Int32) (u5 : Option Value) (u6 : Option Value) (u7 : Option Value) (M : dp_M) : D_L_law_1392 xs xl d v4 u5 u6 u7 M = if (v4 + (1 : Int32)) < 0 ∨ xl ≤ Int32.toNatClampNeg (v4 + (1 : Int32)) then none else (if (v4 + (2 : Int32)) < 0 ∨ xl ≤ Int32.toNatClampNeg (v4 + (2 : Int32)) then none else (dp_bi (dp_den true xs xl d 607 [.ref 0, .int (xs (Int32.toNatClampNeg (v4 + (1 : Int32)))), .int (xs (Int32.toNatClampNeg (v4 + (2 : Int32)))), .ref 245] M) (fun r2 M1 => if (v4 + (1 : Int32)) < 0 ∨ xl ≤ Int32.toNatClampNeg (v4 + (1 : Int32)) then none else (if (v4 + (2 : Int32)) < 0 ∨ xl ≤ Int32.toNatClampNeg (v4 + (2 : Int32)) then none else (dp_bi (dp_den true xs xl d 419 [.ref 114, .int (xs (Int32.toNatClampNeg (v4 + (1 : Int32)))), .int (xs (Int32.toNatClampNeg (v4 + (2 : Int32))))] M1) (fun r4 M3 => dp_bi (dp_den true xs xl d 365 [.ref 114] M3) (fun r6 M5 => if r6 = r2 then (if r2 = 0 then (if (0 : Int32) < 0 ∨ 1 ≤ Int32.toNatClampNeg (0 : Int32) then none else (if (lg_cmp (dp_J M5 245 (Int32.toNatClampNeg (0 : Int32))) (Int32.toInt64 r4)) = 0 then (D_L_law_6132 xs xl d v4 (some (.int r2)) (some (.int r4)) u7 M5) else (some (.inl (some (.int (0 : Int32))), M5)))) else (D_L_law_6132 xs xl d v4 (some (.int r2)) (some (.int r4)) u7 M5)) else (some (.inl (some (.int (0 : Int32))), M5))))))))) := by
  have hF := dp_den_grow (md := true) (xs := xs) (xl := xl) d
  unfold D_L_law_1392
  refine dp_s1 hF (i := .aload_n 1) rfl (fun _ => rfl) ?_
  refine dp_s1 hF (i := .aload_n 0) rfl (fun _ => rfl) ?_
  refine dp_s1 hF (i := .iload 4) rfl (fun _ => rfl) ?_
  refine dp_s1 hF (i := .iconst 1) rfl (fun _ => rfl) ?_
  refine dp_s1 hF (i := .iadd) rfl (fun _ => rfl) ?_
  refine dp_s3 hF (i := .iaload) rfl (fun _ => rfl) ?_
  refine dp_s1 hF (i := .aload_n 0) rfl (fun _ => rfl) ?_
  refine dp_s1 hF (i := .iload 4) rfl (fun _ => rfl) ?_
  refine dp_s1 hF (i := .iconst 2) rfl (fun _ => rfl) ?_
  refine dp_s1 hF (i := .iadd) rfl (fun _ => rfl) ?_
  refine dp_s3 hF (i := .iaload) rfl (fun _ => rfl) ?_
  refine dp_s1 hF (i := .aload_n 3) rfl (fun _ => rfl) ?_
  refine dp_si (mj := dp_m_L_where) (i := .invokestatic 286) rfl rfl (Or.inl rfl) rfl (fun _ => rfl) (fun r2 M1 => ?_)
  refine dp_s1 hF (i := .istore 5) rfl (fun _ => rfl) ?_
  refine dp_s1 hF (i := .aload_n 2) rfl (fun _ => rfl) ?_
  refine dp_s1 hF (i := .aload_n 0) rfl (fun _ => rfl) ?_
  refine dp_s1 hF (i := .iload 4) rfl (fun _ => rfl) ?_
  refine dp_s1 hF (i := .iconst 1) rfl (fun _ => rfl) ?_
  refine dp_s1 hF (i := .iadd) rfl (fun _ => rfl) ?_
  refine dp_s3 hF (i := .iaload) rfl (fun _ => rfl) ?_
  refine dp_s1 hF (i := .aload_n 0) rfl (fun _ => rfl) ?_
  refine dp_s1 hF (i := .iload 4) rfl (fun _ => rfl) ?_
  refine dp_s1 hF (i := .iconst 2) rfl (fun _ => rfl) ?_
  refine dp_s1 hF (i := .iadd) rfl (fun _ => rfl) ?_
  refine dp_s3 hF (i := .iaload) rfl (fun _ => rfl) ?_
  refine dp_si (mj := dp_m_X12_where) (i := .invokevirtual 288) rfl rfl (Or.inl rfl) rfl (fun _ => rfl) (fun r4 M3 => ?_)
  refine dp_s1 hF (i := .istore 6) rfl (fun _ => rfl) ?_
  refine dp_s1 hF (i := .aload_n 2) rfl (fun _ => rfl) ?_
  refine dp_si (mj := dp_m_X12_thrown) (i := .invokevirtual 229) rfl rfl (Or.inl rfl) rfl (fun _ => rfl) (fun r6 M5 => ?_)
  refine dp_s1 hF (i := .iload 5) rfl (fun _ => rfl) ?_
  refine dp_s2 hF (i := .if_icmp .eq 5) (a := (1440, [some (.retAddr 0), some (.ref 0), some (.ref 114), some (.ref 245), some (.int v4), some (.int r2), some (.int r4), u7], [], M5)) (b := (1438, [some (.retAddr 0), some (.ref 0), some (.ref 114), some (.ref 245), some (.int v4), some (.int r2), some (.int r4), u7], [], M5)) rfl (fun _ => rfl) ?_ ?_
  · refine dp_s1 hF (i := .iload 5) rfl (fun _ => rfl) ?_
    refine dp_s2 hF (i := .ifCond .ne 15) (a := (1445, [some (.retAddr 0), some (.ref 0), some (.ref 114), some (.ref 245), some (.int v4), some (.int r2), some (.int r4), u7], [], M5)) (b := (1457, [some (.retAddr 0), some (.ref 0), some (.ref 114), some (.ref 245), some (.int v4), some (.int r2), some (.int r4), u7], [], M5)) rfl (fun _ => rfl) ?_ ?_
    · refine dp_s1 hF (i := .aload_n 3) rfl (fun _ => rfl) ?_
      refine dp_s1 hF (i := .iconst 0) rfl (fun _ => rfl) ?_
      refine dp_s3 hF (i := .laload) rfl (fun _ => rfl) ?_
      refine dp_s1 hF (i := .iload 6) rfl (fun _ => rfl) ?_
      refine dp_s1 hF (i := .i2l) rfl (fun _ => rfl) ?_
      refine dp_s1 hF (i := .lcmp) rfl (fun _ => rfl) ?_
      refine dp_s2 hF (i := .ifCond .eq 5) (a := (1457, [some (.retAddr 0), some (.ref 0), some (.ref 114), some (.ref 245), some (.int v4), some (.int r2), some (.int r4), u7], [], M5)) (b := (1455, [some (.retAddr 0), some (.ref 0), some (.ref 114), some (.ref 245), some (.int v4), some (.int r2), some (.int r4), u7], [], M5)) rfl (fun _ => rfl) ?_ ?_
      · refine dp_s1 hF (i := .goto 4675) rfl (fun _ => rfl) ?_
        exact rfl
      refine dp_s1 hF (i := .iconst 0) rfl (fun _ => rfl) ?_
      exact dp_s0 hF (i := .ireturn) rfl (fun _ => rfl)
    refine dp_s1 hF (i := .goto 4675) rfl (fun _ => rfl) ?_
    exact rfl
  refine dp_s1 hF (i := .iconst 0) rfl (fun _ => rfl) ?_
  exact dp_s0 hF (i := .ireturn) rfl (fun _ => rfl)

/-! THE CONSTRUCTORS: the memories -/
theorem dq_nN (M : dp_M) (n t z : Nat) : dp_n (dp_new M n t z) = dp_n M + 1 := rfl
theorem dq_nR (M : dp_M) (k i : Nat) (x : Option Nat) : dp_n (dp_setR M k i x) = dp_n M := rfl
theorem dq_nI (M : dp_M) (k i : Nat) (x : Int32) : dp_n (dp_setI M k i x) = dp_n M := rfl
theorem dq_nF (M : dp_M) (p : Nat) (x : Int32) (N : Nat) : dp_n (dq_fl M p x N) = dp_n M := rfl
theorem dq_nL (M : dp_M) (p N : Nat) : dp_n (dq_il M p N) = dp_n M := rfl
theorem dq_nJ (M : dp_M) (p : Nat) (x : Int64) (N : Nat) : dp_n (dq_jl M p x N) = dp_n M := rfl
def dq_0 (_ : Nat → Int32) : dp_M := dp_M0
theorem dqn_0 (v : Nat → Int32) : dp_n (dq_0 v) = 0 := rfl
def dq_1 (v : Nat → Int32) : dp_M := dp_new (dq_0 v) 0 21 (dp_nf 11)
theorem dqn_1 (v : Nat → Int32) : dp_n (dq_1 v) = 1 := (dq_nN (dq_0 v) 0 21 (dp_nf 11)).trans (congrArg (· + 1) (dqn_0 v))
def dq_2 (v : Nat → Int32) : dp_M := dp_new (dq_1 v) 0 12 (dp_nf 2)
theorem dqn_2 (v : Nat → Int32) : dp_n (dq_2 v) = 2 := (dq_nN (dq_1 v) 0 12 (dp_nf 2)).trans (congrArg (· + 1) (dqn_1 v))
def dq_3 (v : Nat → Int32) : dp_M := dp_new (dq_2 v) 100 1 100
theorem dqn_3 (v : Nat → Int32) : dp_n (dq_3 v) = 3 := (dq_nN (dq_2 v) 100 1 100).trans (congrArg (· + 1) (dqn_2 v))
def dq_4 (v : Nat → Int32) : dp_M := dp_setR (dq_3 v) 1 4 (some 2)
theorem dqn_4 (v : Nat → Int32) : dp_n (dq_4 v) = 3 := (dq_nR (dq_3 v) 1 4 (some 2)).trans (dqn_3 v)
def dq_5 (v : Nat → Int32) : dp_M := dp_new (dq_4 v) 100 1 100
theorem dqn_5 (v : Nat → Int32) : dp_n (dq_5 v) = 4 := (dq_nN (dq_4 v) 100 1 100).trans (congrArg (· + 1) (dqn_4 v))
def dq_6 (v : Nat → Int32) : dp_M := dp_setR (dq_5 v) 1 5 (some 3)
theorem dqn_6 (v : Nat → Int32) : dp_n (dq_6 v) = 4 := (dq_nR (dq_5 v) 1 5 (some 3)).trans (dqn_5 v)
def dq_7 (v : Nat → Int32) : dp_M := dp_new (dq_6 v) 100 1 100
theorem dqn_7 (v : Nat → Int32) : dp_n (dq_7 v) = 5 := (dq_nN (dq_6 v) 100 1 100).trans (congrArg (· + 1) (dqn_6 v))
def dq_8 (v : Nat → Int32) : dp_M := dp_setR (dq_7 v) 1 6 (some 4)
theorem dqn_8 (v : Nat → Int32) : dp_n (dq_8 v) = 5 := (dq_nR (dq_7 v) 1 6 (some 4)).trans (dqn_7 v)
def dq_9 (v : Nat → Int32) : dp_M := dp_new (dq_8 v) 100 1 100
theorem dqn_9 (v : Nat → Int32) : dp_n (dq_9 v) = 6 := (dq_nN (dq_8 v) 100 1 100).trans (congrArg (· + 1) (dqn_8 v))
def dq_10 (v : Nat → Int32) : dp_M := dp_setR (dq_9 v) 1 7 (some 5)
theorem dqn_10 (v : Nat → Int32) : dp_n (dq_10 v) = 6 := (dq_nR (dq_9 v) 1 7 (some 5)).trans (dqn_9 v)
def dq_11 (v : Nat → Int32) : dp_M := dp_new (dq_10 v) 100 1 100
theorem dqn_11 (v : Nat → Int32) : dp_n (dq_11 v) = 7 := (dq_nN (dq_10 v) 100 1 100).trans (congrArg (· + 1) (dqn_10 v))
def dq_12 (v : Nat → Int32) : dp_M := dp_setR (dq_11 v) 1 8 (some 6)
theorem dqn_12 (v : Nat → Int32) : dp_n (dq_12 v) = 7 := (dq_nR (dq_11 v) 1 8 (some 6)).trans (dqn_11 v)
def dq_13 (v : Nat → Int32) : dp_M := dp_new (dq_12 v) 100 1 100
theorem dqn_13 (v : Nat → Int32) : dp_n (dq_13 v) = 8 := (dq_nN (dq_12 v) 100 1 100).trans (congrArg (· + 1) (dqn_12 v))
def dq_14 (v : Nat → Int32) : dp_M := dp_setR (dq_13 v) 1 9 (some 7)
theorem dqn_14 (v : Nat → Int32) : dp_n (dq_14 v) = 8 := (dq_nR (dq_13 v) 1 9 (some 7)).trans (dqn_13 v)
def dq_15 (v : Nat → Int32) : dp_M := dp_new (dq_14 v) 100 1 100
theorem dqn_15 (v : Nat → Int32) : dp_n (dq_15 v) = 9 := (dq_nN (dq_14 v) 100 1 100).trans (congrArg (· + 1) (dqn_14 v))
def dq_16 (v : Nat → Int32) : dp_M := dp_setR (dq_15 v) 1 10 (some 8)
theorem dqn_16 (v : Nat → Int32) : dp_n (dq_16 v) = 9 := (dq_nR (dq_15 v) 1 10 (some 8)).trans (dqn_15 v)
def dq_17 (v : Nat → Int32) : dp_M := dp_new (dq_16 v) 100 1 100
theorem dqn_17 (v : Nat → Int32) : dp_n (dq_17 v) = 10 := (dq_nN (dq_16 v) 100 1 100).trans (congrArg (· + 1) (dqn_16 v))
def dq_18 (v : Nat → Int32) : dp_M := dp_setR (dq_17 v) 1 11 (some 9)
theorem dqn_18 (v : Nat → Int32) : dp_n (dq_18 v) = 10 := (dq_nR (dq_17 v) 1 11 (some 9)).trans (dqn_17 v)
def dq_19 (v : Nat → Int32) : dp_M := dp_new (dq_18 v) 100 1 100
theorem dqn_19 (v : Nat → Int32) : dp_n (dq_19 v) = 11 := (dq_nN (dq_18 v) 100 1 100).trans (congrArg (· + 1) (dqn_18 v))
def dq_20 (v : Nat → Int32) : dp_M := dp_setR (dq_19 v) 1 12 (some 10)
theorem dqn_20 (v : Nat → Int32) : dp_n (dq_20 v) = 11 := (dq_nR (dq_19 v) 1 12 (some 10)).trans (dqn_19 v)
def dq_21 (v : Nat → Int32) : dp_M := dp_new (dq_20 v) 100 1 100
theorem dqn_21 (v : Nat → Int32) : dp_n (dq_21 v) = 12 := (dq_nN (dq_20 v) 100 1 100).trans (congrArg (· + 1) (dqn_20 v))
def dq_22 (v : Nat → Int32) : dp_M := dp_setR (dq_21 v) 1 13 (some 11)
theorem dqn_22 (v : Nat → Int32) : dp_n (dq_22 v) = 12 := (dq_nR (dq_21 v) 1 13 (some 11)).trans (dqn_21 v)
def dq_23 (v : Nat → Int32) : dp_M := dp_new (dq_22 v) 10000 3 10000
theorem dqn_23 (v : Nat → Int32) : dp_n (dq_23 v) = 13 := (dq_nN (dq_22 v) 10000 3 10000).trans (congrArg (· + 1) (dqn_22 v))
def dq_24 (v : Nat → Int32) : dp_M := dp_setR (dq_23 v) 1 17 (some 12)
theorem dqn_24 (v : Nat → Int32) : dp_n (dq_24 v) = 13 := (dq_nR (dq_23 v) 1 17 (some 12)).trans (dqn_23 v)
def dq_25 (v : Nat → Int32) : dp_M := dp_new (dq_24 v) 4 1 4
theorem dqn_25 (v : Nat → Int32) : dp_n (dq_25 v) = 14 := (dq_nN (dq_24 v) 4 1 4).trans (congrArg (· + 1) (dqn_24 v))
def dq_26 (v : Nat → Int32) : dp_M := dp_setR (dq_25 v) 1 18 (some 13)
theorem dqn_26 (v : Nat → Int32) : dp_n (dq_26 v) = 14 := (dq_nR (dq_25 v) 1 18 (some 13)).trans (dqn_25 v)
def dq_27 (v : Nat → Int32) : dp_M := dp_new (dq_26 v) 0 14 (dp_nf 4)
theorem dqn_27 (v : Nat → Int32) : dp_n (dq_27 v) = 15 := (dq_nN (dq_26 v) 0 14 (dp_nf 4)).trans (congrArg (· + 1) (dqn_26 v))
def dq_28 (v : Nat → Int32) : dp_M := dp_new (dq_27 v) 16 1 16
theorem dqn_28 (v : Nat → Int32) : dp_n (dq_28 v) = 16 := (dq_nN (dq_27 v) 16 1 16).trans (congrArg (· + 1) (dqn_27 v))
def dq_29 (v : Nat → Int32) : dp_M := dp_setR (dq_28 v) 14 0 (some 15)
theorem dqn_29 (v : Nat → Int32) : dp_n (dq_29 v) = 16 := (dq_nR (dq_28 v) 14 0 (some 15)).trans (dqn_28 v)
def dq_30 (v : Nat → Int32) : dp_M := dp_new (dq_29 v) 65536 1 65536
theorem dqn_30 (v : Nat → Int32) : dp_n (dq_30 v) = 17 := (dq_nN (dq_29 v) 65536 1 65536).trans (congrArg (· + 1) (dqn_29 v))
def dq_31 (v : Nat → Int32) : dp_M := dp_setR (dq_30 v) 14 1 (some 16)
theorem dqn_31 (v : Nat → Int32) : dp_n (dq_31 v) = 17 := (dq_nR (dq_30 v) 14 1 (some 16)).trans (dqn_30 v)
def dq_32 (v : Nat → Int32) : dp_M := dp_new (dq_31 v) 1300 1 1300
theorem dqn_32 (v : Nat → Int32) : dp_n (dq_32 v) = 18 := (dq_nN (dq_31 v) 1300 1 1300).trans (congrArg (· + 1) (dqn_31 v))
def dq_33 (v : Nat → Int32) : dp_M := dp_setR (dq_32 v) 14 2 (some 17)
theorem dqn_33 (v : Nat → Int32) : dp_n (dq_33 v) = 18 := (dq_nR (dq_32 v) 14 2 (some 17)).trans (dqn_32 v)
def dq_34 (v : Nat → Int32) : dp_M := dp_new (dq_33 v) 1300 1 1300
theorem dqn_34 (v : Nat → Int32) : dp_n (dq_34 v) = 19 := (dq_nN (dq_33 v) 1300 1 1300).trans (congrArg (· + 1) (dqn_33 v))
def dq_35 (v : Nat → Int32) : dp_M := dp_setR (dq_34 v) 14 3 (some 18)
theorem dqn_35 (v : Nat → Int32) : dp_n (dq_35 v) = 19 := (dq_nR (dq_34 v) 14 3 (some 18)).trans (dqn_34 v)
def dq_36 (v : Nat → Int32) : dp_M := dp_new (dq_35 v) 1300 1 1300
theorem dqn_36 (v : Nat → Int32) : dp_n (dq_36 v) = 20 := (dq_nN (dq_35 v) 1300 1 1300).trans (congrArg (· + 1) (dqn_35 v))
def dq_37 (v : Nat → Int32) : dp_M := dp_setR (dq_36 v) 14 4 (some 19)
theorem dqn_37 (v : Nat → Int32) : dp_n (dq_37 v) = 20 := (dq_nR (dq_36 v) 14 4 (some 19)).trans (dqn_36 v)
def dq_38 (v : Nat → Int32) : dp_M := dp_new (dq_37 v) 4 1 4
theorem dqn_38 (v : Nat → Int32) : dp_n (dq_38 v) = 21 := (dq_nN (dq_37 v) 4 1 4).trans (congrArg (· + 1) (dqn_37 v))
def dq_39 (v : Nat → Int32) : dp_M := dp_setR (dq_38 v) 14 5 (some 20)
theorem dqn_39 (v : Nat → Int32) : dp_n (dq_39 v) = 21 := (dq_nR (dq_38 v) 14 5 (some 20)).trans (dqn_38 v)
def dq_40 (v : Nat → Int32) : dp_M := dp_new (dq_39 v) 4 3 4
theorem dqn_40 (v : Nat → Int32) : dp_n (dq_40 v) = 22 := (dq_nN (dq_39 v) 4 3 4).trans (congrArg (· + 1) (dqn_39 v))
def dq_41 (v : Nat → Int32) : dp_M := dp_setR (dq_40 v) 14 6 (some 21)
theorem dqn_41 (v : Nat → Int32) : dp_n (dq_41 v) = 22 := (dq_nR (dq_40 v) 14 6 (some 21)).trans (dqn_40 v)
def dq_42 (v : Nat → Int32) : dp_M := dp_new (dq_41 v) 4 1 4
theorem dqn_42 (v : Nat → Int32) : dp_n (dq_42 v) = 23 := (dq_nN (dq_41 v) 4 1 4).trans (congrArg (· + 1) (dqn_41 v))
def dq_43 (v : Nat → Int32) : dp_M := dp_setR (dq_42 v) 14 7 (some 22)
theorem dqn_43 (v : Nat → Int32) : dp_n (dq_43 v) = 23 := (dq_nR (dq_42 v) 14 7 (some 22)).trans (dqn_42 v)
def dq_44 (v : Nat → Int32) : dp_M := dp_new (dq_43 v) 3 1 3
theorem dqn_44 (v : Nat → Int32) : dp_n (dq_44 v) = 24 := (dq_nN (dq_43 v) 3 1 3).trans (congrArg (· + 1) (dqn_43 v))
def dq_45 (v : Nat → Int32) : dp_M := dp_setR (dq_44 v) 14 8 (some 23)
theorem dqn_45 (v : Nat → Int32) : dp_n (dq_45 v) = 24 := (dq_nR (dq_44 v) 14 8 (some 23)).trans (dqn_44 v)
def dq_46 (v : Nat → Int32) : dp_M := dp_new (dq_45 v) 3 1 3
theorem dqn_46 (v : Nat → Int32) : dp_n (dq_46 v) = 25 := (dq_nN (dq_45 v) 3 1 3).trans (congrArg (· + 1) (dqn_45 v))
def dq_47 (v : Nat → Int32) : dp_M := dp_setR (dq_46 v) 14 9 (some 24)
theorem dqn_47 (v : Nat → Int32) : dp_n (dq_47 v) = 25 := (dq_nR (dq_46 v) 14 9 (some 24)).trans (dqn_46 v)
def dq_48 (v : Nat → Int32) : dp_M := dp_setR (dq_47 v) 1 19 (some 14)
theorem dqn_48 (v : Nat → Int32) : dp_n (dq_48 v) = 25 := (dq_nR (dq_47 v) 1 19 (some 14)).trans (dqn_47 v)
def dq_49 (v : Nat → Int32) : dp_M := dp_setI (dq_48 v) 1 0 (dq_h (v 0) (12 : Int32))
theorem dqn_49 (v : Nat → Int32) : dp_n (dq_49 v) = 25 := (dq_nI (dq_48 v) 1 0 (dq_h (v 0) (12 : Int32))).trans (dqn_48 v)
def dq_50 (v : Nat → Int32) : dp_M := dp_setI (dq_49 v) 1 1 (dq_h (v 1) (4 : Int32))
theorem dqn_50 (v : Nat → Int32) : dp_n (dq_50 v) = 25 := (dq_nI (dq_49 v) 1 1 (dq_h (v 1) (4 : Int32))).trans (dqn_49 v)
def dq_51 (v : Nat → Int32) : dp_M := dp_new (dq_50 v) (Int32.toNatClampNeg (dq_h (v 0) (12 : Int32))) 1 (Int32.toNatClampNeg (dq_h (v 0) (12 : Int32)))
theorem dqn_51 (v : Nat → Int32) : dp_n (dq_51 v) = 26 := (dq_nN (dq_50 v) (Int32.toNatClampNeg (dq_h (v 0) (12 : Int32))) 1 (Int32.toNatClampNeg (dq_h (v 0) (12 : Int32)))).trans (congrArg (· + 1) (dqn_50 v))
def dq_52 (v : Nat → Int32) : dp_M := dp_setR (dq_51 v) 1 14 (some 25)
theorem dqn_52 (v : Nat → Int32) : dp_n (dq_52 v) = 26 := (dq_nR (dq_51 v) 1 14 (some 25)).trans (dqn_51 v)
def dq_53 (v : Nat → Int32) : dp_M := dp_new (dq_52 v) (Int32.toNatClampNeg (dq_h (v 0) (12 : Int32))) 1 (Int32.toNatClampNeg (dq_h (v 0) (12 : Int32)))
theorem dqn_53 (v : Nat → Int32) : dp_n (dq_53 v) = 27 := (dq_nN (dq_52 v) (Int32.toNatClampNeg (dq_h (v 0) (12 : Int32))) 1 (Int32.toNatClampNeg (dq_h (v 0) (12 : Int32)))).trans (congrArg (· + 1) (dqn_52 v))
def dq_54 (v : Nat → Int32) : dp_M := dp_setR (dq_53 v) 1 15 (some 26)
theorem dqn_54 (v : Nat → Int32) : dp_n (dq_54 v) = 27 := (dq_nR (dq_53 v) 1 15 (some 26)).trans (dqn_53 v)
def dq_55 (v : Nat → Int32) : dp_M := dp_new (dq_54 v) (Int32.toNatClampNeg ((dq_h (v 0) (12 : Int32)) * (16 : Int32))) 1 (Int32.toNatClampNeg ((dq_h (v 0) (12 : Int32)) * (16 : Int32)))
theorem dqn_55 (v : Nat → Int32) : dp_n (dq_55 v) = 28 := (dq_nN (dq_54 v) (Int32.toNatClampNeg ((dq_h (v 0) (12 : Int32)) * (16 : Int32))) 1 (Int32.toNatClampNeg ((dq_h (v 0) (12 : Int32)) * (16 : Int32)))).trans (congrArg (· + 1) (dqn_54 v))
def dq_56 (v : Nat → Int32) : dp_M := dp_setR (dq_55 v) 1 16 (some 27)
theorem dqn_56 (v : Nat → Int32) : dp_n (dq_56 v) = 28 := (dq_nR (dq_55 v) 1 16 (some 27)).trans (dqn_55 v)
def dq_57 (v : Nat → Int32) : dp_M := dq_fl (dq_56 v) 25 (-1 : Int32) (Int32.toNatClampNeg (dq_h (v 0) (12 : Int32)))
theorem dqn_57 (v : Nat → Int32) : dp_n (dq_57 v) = 28 := (dq_nF (dq_56 v) 25 (-1 : Int32) (Int32.toNatClampNeg (dq_h (v 0) (12 : Int32)))).trans (dqn_56 v)
def dq_58 (v : Nat → Int32) : dp_M := dp_setR (dq_57 v) 0 0 (some 1)
theorem dqn_58 (v : Nat → Int32) : dp_n (dq_58 v) = 28 := (dq_nR (dq_57 v) 0 0 (some 1)).trans (dqn_57 v)
def dq_59 (v : Nat → Int32) : dp_M := dp_new (dq_58 v) 0 20 (dp_nf 10)
theorem dqn_59 (v : Nat → Int32) : dp_n (dq_59 v) = 29 := (dq_nN (dq_58 v) 0 20 (dp_nf 10)).trans (congrArg (· + 1) (dqn_58 v))
def dq_60 (v : Nat → Int32) : dp_M := dp_new (dq_59 v) 100 1 100
theorem dqn_60 (v : Nat → Int32) : dp_n (dq_60 v) = 30 := (dq_nN (dq_59 v) 100 1 100).trans (congrArg (· + 1) (dqn_59 v))
def dq_61 (v : Nat → Int32) : dp_M := dp_setR (dq_60 v) 28 8 (some 29)
theorem dqn_61 (v : Nat → Int32) : dp_n (dq_61 v) = 30 := (dq_nR (dq_60 v) 28 8 (some 29)).trans (dqn_60 v)
def dq_62 (v : Nat → Int32) : dp_M := dp_new (dq_61 v) 100 1 100
theorem dqn_62 (v : Nat → Int32) : dp_n (dq_62 v) = 31 := (dq_nN (dq_61 v) 100 1 100).trans (congrArg (· + 1) (dqn_61 v))
def dq_63 (v : Nat → Int32) : dp_M := dp_setR (dq_62 v) 28 9 (some 30)
theorem dqn_63 (v : Nat → Int32) : dp_n (dq_63 v) = 31 := (dq_nR (dq_62 v) 28 9 (some 30)).trans (dqn_62 v)
def dq_64 (v : Nat → Int32) : dp_M := dp_new (dq_63 v) 100 1 100
theorem dqn_64 (v : Nat → Int32) : dp_n (dq_64 v) = 32 := (dq_nN (dq_63 v) 100 1 100).trans (congrArg (· + 1) (dqn_63 v))
def dq_65 (v : Nat → Int32) : dp_M := dp_setR (dq_64 v) 28 10 (some 31)
theorem dqn_65 (v : Nat → Int32) : dp_n (dq_65 v) = 32 := (dq_nR (dq_64 v) 28 10 (some 31)).trans (dqn_64 v)
def dq_66 (v : Nat → Int32) : dp_M := dp_new (dq_65 v) 100 1 100
theorem dqn_66 (v : Nat → Int32) : dp_n (dq_66 v) = 33 := (dq_nN (dq_65 v) 100 1 100).trans (congrArg (· + 1) (dqn_65 v))
def dq_67 (v : Nat → Int32) : dp_M := dp_setR (dq_66 v) 28 11 (some 32)
theorem dqn_67 (v : Nat → Int32) : dp_n (dq_67 v) = 33 := (dq_nR (dq_66 v) 28 11 (some 32)).trans (dqn_66 v)
def dq_68 (v : Nat → Int32) : dp_M := dp_setR (dq_67 v) 28 0 (some 1)
theorem dqn_68 (v : Nat → Int32) : dp_n (dq_68 v) = 33 := (dq_nR (dq_67 v) 28 0 (some 1)).trans (dqn_67 v)
def dq_69 (v : Nat → Int32) : dp_M := dp_setI (dq_68 v) 28 1 (dq_h (v 2) (20 : Int32))
theorem dqn_69 (v : Nat → Int32) : dp_n (dq_69 v) = 33 := (dq_nI (dq_68 v) 28 1 (dq_h (v 2) (20 : Int32))).trans (dqn_68 v)
def dq_70 (v : Nat → Int32) : dp_M := dp_setI (dq_69 v) 28 2 (dq_h (v 3) (8 : Int32))
theorem dqn_70 (v : Nat → Int32) : dp_n (dq_70 v) = 33 := (dq_nI (dq_69 v) 28 2 (dq_h (v 3) (8 : Int32))).trans (dqn_69 v)
def dq_71 (v : Nat → Int32) : dp_M := dp_setI (dq_70 v) 28 3 (dq_h (v 4) (400 : Int32))
theorem dqn_71 (v : Nat → Int32) : dp_n (dq_71 v) = 33 := (dq_nI (dq_70 v) 28 3 (dq_h (v 4) (400 : Int32))).trans (dqn_70 v)
def dq_72 (v : Nat → Int32) : dp_M := dp_new (dq_71 v) (Int32.toNatClampNeg (dq_h (v 2) (20 : Int32))) 1 (Int32.toNatClampNeg (dq_h (v 2) (20 : Int32)))
theorem dqn_72 (v : Nat → Int32) : dp_n (dq_72 v) = 34 := (dq_nN (dq_71 v) (Int32.toNatClampNeg (dq_h (v 2) (20 : Int32))) 1 (Int32.toNatClampNeg (dq_h (v 2) (20 : Int32)))).trans (congrArg (· + 1) (dqn_71 v))
def dq_73 (v : Nat → Int32) : dp_M := dp_setR (dq_72 v) 28 4 (some 33)
theorem dqn_73 (v : Nat → Int32) : dp_n (dq_73 v) = 34 := (dq_nR (dq_72 v) 28 4 (some 33)).trans (dqn_72 v)
def dq_74 (v : Nat → Int32) : dp_M := dp_new (dq_73 v) (Int32.toNatClampNeg (dq_h (v 2) (20 : Int32))) 1 (Int32.toNatClampNeg (dq_h (v 2) (20 : Int32)))
theorem dqn_74 (v : Nat → Int32) : dp_n (dq_74 v) = 35 := (dq_nN (dq_73 v) (Int32.toNatClampNeg (dq_h (v 2) (20 : Int32))) 1 (Int32.toNatClampNeg (dq_h (v 2) (20 : Int32)))).trans (congrArg (· + 1) (dqn_73 v))
def dq_75 (v : Nat → Int32) : dp_M := dp_setR (dq_74 v) 28 5 (some 34)
theorem dqn_75 (v : Nat → Int32) : dp_n (dq_75 v) = 35 := (dq_nR (dq_74 v) 28 5 (some 34)).trans (dqn_74 v)
def dq_76 (v : Nat → Int32) : dp_M := dp_new (dq_75 v) (Int32.toNatClampNeg (dq_h (v 2) (20 : Int32))) 1 (Int32.toNatClampNeg (dq_h (v 2) (20 : Int32)))
theorem dqn_76 (v : Nat → Int32) : dp_n (dq_76 v) = 36 := (dq_nN (dq_75 v) (Int32.toNatClampNeg (dq_h (v 2) (20 : Int32))) 1 (Int32.toNatClampNeg (dq_h (v 2) (20 : Int32)))).trans (congrArg (· + 1) (dqn_75 v))
def dq_77 (v : Nat → Int32) : dp_M := dp_setR (dq_76 v) 28 6 (some 35)
theorem dqn_77 (v : Nat → Int32) : dp_n (dq_77 v) = 36 := (dq_nR (dq_76 v) 28 6 (some 35)).trans (dqn_76 v)
def dq_78 (v : Nat → Int32) : dp_M := dp_new (dq_77 v) (Int32.toNatClampNeg ((dq_h (v 2) (20 : Int32)) * (dq_h (v 3) (8 : Int32)))) 1 (Int32.toNatClampNeg ((dq_h (v 2) (20 : Int32)) * (dq_h (v 3) (8 : Int32))))
theorem dqn_78 (v : Nat → Int32) : dp_n (dq_78 v) = 37 := (dq_nN (dq_77 v) (Int32.toNatClampNeg ((dq_h (v 2) (20 : Int32)) * (dq_h (v 3) (8 : Int32)))) 1 (Int32.toNatClampNeg ((dq_h (v 2) (20 : Int32)) * (dq_h (v 3) (8 : Int32))))).trans (congrArg (· + 1) (dqn_77 v))
def dq_79 (v : Nat → Int32) : dp_M := dp_setR (dq_78 v) 28 7 (some 36)
theorem dqn_79 (v : Nat → Int32) : dp_n (dq_79 v) = 37 := (dq_nR (dq_78 v) 28 7 (some 36)).trans (dqn_78 v)
def dq_80 (v : Nat → Int32) : dp_M := dq_fl (dq_79 v) 29 (-1 : Int32) 100
theorem dqn_80 (v : Nat → Int32) : dp_n (dq_80 v) = 37 := (dq_nF (dq_79 v) 29 (-1 : Int32) 100).trans (dqn_79 v)
def dq_81 (v : Nat → Int32) : dp_M := dq_fl (dq_80 v) 30 (-1 : Int32) 100
theorem dqn_81 (v : Nat → Int32) : dp_n (dq_81 v) = 37 := (dq_nF (dq_80 v) 30 (-1 : Int32) 100).trans (dqn_80 v)
def dq_82 (v : Nat → Int32) : dp_M := dp_setR (dq_81 v) 0 1 (some 28)
theorem dqn_82 (v : Nat → Int32) : dp_n (dq_82 v) = 37 := (dq_nR (dq_81 v) 0 1 (some 28)).trans (dqn_81 v)
def dq_83 (v : Nat → Int32) : dp_M := dp_new (dq_82 v) 0 11 (dp_nf 1)
theorem dqn_83 (v : Nat → Int32) : dp_n (dq_83 v) = 38 := (dq_nN (dq_82 v) 0 11 (dp_nf 1)).trans (congrArg (· + 1) (dqn_82 v))
def dq_84 (v : Nat → Int32) : dp_M := dp_new (dq_83 v) 4 1 4
theorem dqn_84 (v : Nat → Int32) : dp_n (dq_84 v) = 39 := (dq_nN (dq_83 v) 4 1 4).trans (congrArg (· + 1) (dqn_83 v))
def dq_85 (v : Nat → Int32) : dp_M := dp_setR (dq_84 v) 37 4 (some 38)
theorem dqn_85 (v : Nat → Int32) : dp_n (dq_85 v) = 39 := (dq_nR (dq_84 v) 37 4 (some 38)).trans (dqn_84 v)
def dq_86 (v : Nat → Int32) : dp_M := dp_new (dq_85 v) 4 1 4
theorem dqn_86 (v : Nat → Int32) : dp_n (dq_86 v) = 40 := (dq_nN (dq_85 v) 4 1 4).trans (congrArg (· + 1) (dqn_85 v))
def dq_87 (v : Nat → Int32) : dp_M := dp_setR (dq_86 v) 37 5 (some 39)
theorem dqn_87 (v : Nat → Int32) : dp_n (dq_87 v) = 40 := (dq_nR (dq_86 v) 37 5 (some 39)).trans (dqn_86 v)
def dq_88 (v : Nat → Int32) : dp_M := dp_new (dq_87 v) 4 1 4
theorem dqn_88 (v : Nat → Int32) : dp_n (dq_88 v) = 41 := (dq_nN (dq_87 v) 4 1 4).trans (congrArg (· + 1) (dqn_87 v))
def dq_89 (v : Nat → Int32) : dp_M := dp_setR (dq_88 v) 37 6 (some 40)
theorem dqn_89 (v : Nat → Int32) : dp_n (dq_89 v) = 41 := (dq_nR (dq_88 v) 37 6 (some 40)).trans (dqn_88 v)
def dq_90 (v : Nat → Int32) : dp_M := dp_new (dq_89 v) 100 1 100
theorem dqn_90 (v : Nat → Int32) : dp_n (dq_90 v) = 42 := (dq_nN (dq_89 v) 100 1 100).trans (congrArg (· + 1) (dqn_89 v))
def dq_91 (v : Nat → Int32) : dp_M := dp_setR (dq_90 v) 37 7 (some 41)
theorem dqn_91 (v : Nat → Int32) : dp_n (dq_91 v) = 42 := (dq_nR (dq_90 v) 37 7 (some 41)).trans (dqn_90 v)
def dq_92 (v : Nat → Int32) : dp_M := dp_new (dq_91 v) 100 1 100
theorem dqn_92 (v : Nat → Int32) : dp_n (dq_92 v) = 43 := (dq_nN (dq_91 v) 100 1 100).trans (congrArg (· + 1) (dqn_91 v))
def dq_93 (v : Nat → Int32) : dp_M := dp_setR (dq_92 v) 37 8 (some 42)
theorem dqn_93 (v : Nat → Int32) : dp_n (dq_93 v) = 43 := (dq_nR (dq_92 v) 37 8 (some 42)).trans (dqn_92 v)
def dq_94 (v : Nat → Int32) : dp_M := dp_new (dq_93 v) 100 1 100
theorem dqn_94 (v : Nat → Int32) : dp_n (dq_94 v) = 44 := (dq_nN (dq_93 v) 100 1 100).trans (congrArg (· + 1) (dqn_93 v))
def dq_95 (v : Nat → Int32) : dp_M := dp_setR (dq_94 v) 37 9 (some 43)
theorem dqn_95 (v : Nat → Int32) : dp_n (dq_95 v) = 44 := (dq_nR (dq_94 v) 37 9 (some 43)).trans (dqn_94 v)
def dq_96 (v : Nat → Int32) : dp_M := dp_new (dq_95 v) 100 1 100
theorem dqn_96 (v : Nat → Int32) : dp_n (dq_96 v) = 45 := (dq_nN (dq_95 v) 100 1 100).trans (congrArg (· + 1) (dqn_95 v))
def dq_97 (v : Nat → Int32) : dp_M := dp_setR (dq_96 v) 37 10 (some 44)
theorem dqn_97 (v : Nat → Int32) : dp_n (dq_97 v) = 45 := (dq_nR (dq_96 v) 37 10 (some 44)).trans (dqn_96 v)
def dq_98 (v : Nat → Int32) : dp_M := dp_new (dq_97 v) 100 1 100
theorem dqn_98 (v : Nat → Int32) : dp_n (dq_98 v) = 46 := (dq_nN (dq_97 v) 100 1 100).trans (congrArg (· + 1) (dqn_97 v))
def dq_99 (v : Nat → Int32) : dp_M := dp_setR (dq_98 v) 37 11 (some 45)
theorem dqn_99 (v : Nat → Int32) : dp_n (dq_99 v) = 46 := (dq_nR (dq_98 v) 37 11 (some 45)).trans (dqn_98 v)
def dq_100 (v : Nat → Int32) : dp_M := dp_new (dq_99 v) 300 1 300
theorem dqn_100 (v : Nat → Int32) : dp_n (dq_100 v) = 47 := (dq_nN (dq_99 v) 300 1 300).trans (congrArg (· + 1) (dqn_99 v))
def dq_101 (v : Nat → Int32) : dp_M := dp_setR (dq_100 v) 37 12 (some 46)
theorem dqn_101 (v : Nat → Int32) : dp_n (dq_101 v) = 47 := (dq_nR (dq_100 v) 37 12 (some 46)).trans (dqn_100 v)
def dq_102 (v : Nat → Int32) : dp_M := dp_new (dq_101 v) 300 3 300
theorem dqn_102 (v : Nat → Int32) : dp_n (dq_102 v) = 48 := (dq_nN (dq_101 v) 300 3 300).trans (congrArg (· + 1) (dqn_101 v))
def dq_103 (v : Nat → Int32) : dp_M := dp_setR (dq_102 v) 37 13 (some 47)
theorem dqn_103 (v : Nat → Int32) : dp_n (dq_103 v) = 48 := (dq_nR (dq_102 v) 37 13 (some 47)).trans (dqn_102 v)
def dq_104 (v : Nat → Int32) : dp_M := dp_new (dq_103 v) 4000 1 4000
theorem dqn_104 (v : Nat → Int32) : dp_n (dq_104 v) = 49 := (dq_nN (dq_103 v) 4000 1 4000).trans (congrArg (· + 1) (dqn_103 v))
def dq_105 (v : Nat → Int32) : dp_M := dp_setR (dq_104 v) 37 14 (some 48)
theorem dqn_105 (v : Nat → Int32) : dp_n (dq_105 v) = 49 := (dq_nR (dq_104 v) 37 14 (some 48)).trans (dqn_104 v)
def dq_106 (v : Nat → Int32) : dp_M := dp_new (dq_105 v) 4000 1 4000
theorem dqn_106 (v : Nat → Int32) : dp_n (dq_106 v) = 50 := (dq_nN (dq_105 v) 4000 1 4000).trans (congrArg (· + 1) (dqn_105 v))
def dq_107 (v : Nat → Int32) : dp_M := dp_setR (dq_106 v) 37 15 (some 49)
theorem dqn_107 (v : Nat → Int32) : dp_n (dq_107 v) = 50 := (dq_nR (dq_106 v) 37 15 (some 49)).trans (dqn_106 v)
def dq_108 (v : Nat → Int32) : dp_M := dp_new (dq_107 v) 64 1 64
theorem dqn_108 (v : Nat → Int32) : dp_n (dq_108 v) = 51 := (dq_nN (dq_107 v) 64 1 64).trans (congrArg (· + 1) (dqn_107 v))
def dq_109 (v : Nat → Int32) : dp_M := dp_setR (dq_108 v) 37 16 (some 50)
theorem dqn_109 (v : Nat → Int32) : dp_n (dq_109 v) = 51 := (dq_nR (dq_108 v) 37 16 (some 50)).trans (dqn_108 v)
def dq_110 (v : Nat → Int32) : dp_M := dp_setR (dq_109 v) 37 0 (some 1)
theorem dqn_110 (v : Nat → Int32) : dp_n (dq_110 v) = 51 := (dq_nR (dq_109 v) 37 0 (some 1)).trans (dqn_109 v)
def dq_111 (v : Nat → Int32) : dp_M := dp_setR (dq_110 v) 37 1 (some 28)
theorem dqn_111 (v : Nat → Int32) : dp_n (dq_111 v) = 51 := (dq_nR (dq_110 v) 37 1 (some 28)).trans (dqn_110 v)
def dq_112 (v : Nat → Int32) : dp_M := dq_il (dq_111 v) 43 100
theorem dqn_112 (v : Nat → Int32) : dp_n (dq_112 v) = 51 := (dq_nL (dq_111 v) 43 100).trans (dqn_111 v)
def dq_113 (v : Nat → Int32) : dp_M := dp_setR (dq_112 v) 0 2 (some 37)
theorem dqn_113 (v : Nat → Int32) : dp_n (dq_113 v) = 51 := (dq_nR (dq_112 v) 0 2 (some 37)).trans (dqn_112 v)
def dq_114 (v : Nat → Int32) : dp_M := dp_new (dq_113 v) 0 19 (dp_nf 9)
theorem dqn_114 (v : Nat → Int32) : dp_n (dq_114 v) = 52 := (dq_nN (dq_113 v) 0 19 (dp_nf 9)).trans (congrArg (· + 1) (dqn_113 v))
def dq_115 (v : Nat → Int32) : dp_M := dp_new (dq_114 v) 301 1 301
theorem dqn_115 (v : Nat → Int32) : dp_n (dq_115 v) = 53 := (dq_nN (dq_114 v) 301 1 301).trans (congrArg (· + 1) (dqn_114 v))
def dq_116 (v : Nat → Int32) : dp_M := dp_setR (dq_115 v) 51 4 (some 52)
theorem dqn_116 (v : Nat → Int32) : dp_n (dq_116 v) = 53 := (dq_nR (dq_115 v) 51 4 (some 52)).trans (dqn_115 v)
def dq_117 (v : Nat → Int32) : dp_M := dp_new (dq_116 v) 301 1 301
theorem dqn_117 (v : Nat → Int32) : dp_n (dq_117 v) = 54 := (dq_nN (dq_116 v) 301 1 301).trans (congrArg (· + 1) (dqn_116 v))
def dq_118 (v : Nat → Int32) : dp_M := dp_setR (dq_117 v) 51 5 (some 53)
theorem dqn_118 (v : Nat → Int32) : dp_n (dq_118 v) = 54 := (dq_nR (dq_117 v) 51 5 (some 53)).trans (dqn_117 v)
def dq_119 (v : Nat → Int32) : dp_M := dp_new (dq_118 v) 301 1 301
theorem dqn_119 (v : Nat → Int32) : dp_n (dq_119 v) = 55 := (dq_nN (dq_118 v) 301 1 301).trans (congrArg (· + 1) (dqn_118 v))
def dq_120 (v : Nat → Int32) : dp_M := dp_setR (dq_119 v) 51 6 (some 54)
theorem dqn_120 (v : Nat → Int32) : dp_n (dq_120 v) = 55 := (dq_nR (dq_119 v) 51 6 (some 54)).trans (dqn_119 v)
def dq_121 (v : Nat → Int32) : dp_M := dp_new (dq_120 v) 301 1 301
theorem dqn_121 (v : Nat → Int32) : dp_n (dq_121 v) = 56 := (dq_nN (dq_120 v) 301 1 301).trans (congrArg (· + 1) (dqn_120 v))
def dq_122 (v : Nat → Int32) : dp_M := dp_setR (dq_121 v) 51 7 (some 55)
theorem dqn_122 (v : Nat → Int32) : dp_n (dq_122 v) = 56 := (dq_nR (dq_121 v) 51 7 (some 55)).trans (dqn_121 v)
def dq_123 (v : Nat → Int32) : dp_M := dp_new (dq_122 v) 301 1 301
theorem dqn_123 (v : Nat → Int32) : dp_n (dq_123 v) = 57 := (dq_nN (dq_122 v) 301 1 301).trans (congrArg (· + 1) (dqn_122 v))
def dq_124 (v : Nat → Int32) : dp_M := dp_setR (dq_123 v) 51 8 (some 56)
theorem dqn_124 (v : Nat → Int32) : dp_n (dq_124 v) = 57 := (dq_nR (dq_123 v) 51 8 (some 56)).trans (dqn_123 v)
def dq_125 (v : Nat → Int32) : dp_M := dp_new (dq_124 v) 300 1 300
theorem dqn_125 (v : Nat → Int32) : dp_n (dq_125 v) = 58 := (dq_nN (dq_124 v) 300 1 300).trans (congrArg (· + 1) (dqn_124 v))
def dq_126 (v : Nat → Int32) : dp_M := dp_setR (dq_125 v) 51 9 (some 57)
theorem dqn_126 (v : Nat → Int32) : dp_n (dq_126 v) = 58 := (dq_nR (dq_125 v) 51 9 (some 57)).trans (dqn_125 v)
def dq_127 (v : Nat → Int32) : dp_M := dp_new (dq_126 v) 300 1 300
theorem dqn_127 (v : Nat → Int32) : dp_n (dq_127 v) = 59 := (dq_nN (dq_126 v) 300 1 300).trans (congrArg (· + 1) (dqn_126 v))
def dq_128 (v : Nat → Int32) : dp_M := dp_setR (dq_127 v) 51 10 (some 58)
theorem dqn_128 (v : Nat → Int32) : dp_n (dq_128 v) = 59 := (dq_nR (dq_127 v) 51 10 (some 58)).trans (dqn_127 v)
def dq_129 (v : Nat → Int32) : dp_M := dp_new (dq_128 v) 301 5 301
theorem dqn_129 (v : Nat → Int32) : dp_n (dq_129 v) = 60 := (dq_nN (dq_128 v) 301 5 301).trans (congrArg (· + 1) (dqn_128 v))
def dq_130 (v : Nat → Int32) : dp_M := dp_setR (dq_129 v) 51 11 (some 59)
theorem dqn_130 (v : Nat → Int32) : dp_n (dq_130 v) = 60 := (dq_nR (dq_129 v) 51 11 (some 59)).trans (dqn_129 v)
def dq_131 (v : Nat → Int32) : dp_M := dp_new (dq_130 v) 301 1 301
theorem dqn_131 (v : Nat → Int32) : dp_n (dq_131 v) = 61 := (dq_nN (dq_130 v) 301 1 301).trans (congrArg (· + 1) (dqn_130 v))
def dq_132 (v : Nat → Int32) : dp_M := dp_setR (dq_131 v) 51 12 (some 60)
theorem dqn_132 (v : Nat → Int32) : dp_n (dq_132 v) = 61 := (dq_nR (dq_131 v) 51 12 (some 60)).trans (dqn_131 v)
def dq_133 (v : Nat → Int32) : dp_M := dp_new (dq_132 v) 301 1 301
theorem dqn_133 (v : Nat → Int32) : dp_n (dq_133 v) = 62 := (dq_nN (dq_132 v) 301 1 301).trans (congrArg (· + 1) (dqn_132 v))
def dq_134 (v : Nat → Int32) : dp_M := dp_setR (dq_133 v) 51 13 (some 61)
theorem dqn_134 (v : Nat → Int32) : dp_n (dq_134 v) = 62 := (dq_nR (dq_133 v) 51 13 (some 61)).trans (dqn_133 v)
def dq_135 (v : Nat → Int32) : dp_M := dp_new (dq_134 v) 301 1 301
theorem dqn_135 (v : Nat → Int32) : dp_n (dq_135 v) = 63 := (dq_nN (dq_134 v) 301 1 301).trans (congrArg (· + 1) (dqn_134 v))
def dq_136 (v : Nat → Int32) : dp_M := dp_setR (dq_135 v) 51 14 (some 62)
theorem dqn_136 (v : Nat → Int32) : dp_n (dq_136 v) = 63 := (dq_nR (dq_135 v) 51 14 (some 62)).trans (dqn_135 v)
def dq_137 (v : Nat → Int32) : dp_M := dp_new (dq_136 v) 2408 1 2408
theorem dqn_137 (v : Nat → Int32) : dp_n (dq_137 v) = 64 := (dq_nN (dq_136 v) 2408 1 2408).trans (congrArg (· + 1) (dqn_136 v))
def dq_138 (v : Nat → Int32) : dp_M := dp_setR (dq_137 v) 51 15 (some 63)
theorem dqn_138 (v : Nat → Int32) : dp_n (dq_138 v) = 64 := (dq_nR (dq_137 v) 51 15 (some 63)).trans (dqn_137 v)
def dq_139 (v : Nat → Int32) : dp_M := dp_new (dq_138 v) 2408 1 2408
theorem dqn_139 (v : Nat → Int32) : dp_n (dq_139 v) = 65 := (dq_nN (dq_138 v) 2408 1 2408).trans (congrArg (· + 1) (dqn_138 v))
def dq_140 (v : Nat → Int32) : dp_M := dp_setR (dq_139 v) 51 16 (some 64)
theorem dqn_140 (v : Nat → Int32) : dp_n (dq_140 v) = 65 := (dq_nR (dq_139 v) 51 16 (some 64)).trans (dqn_139 v)
def dq_141 (v : Nat → Int32) : dp_M := dp_new (dq_140 v) 24 1 24
theorem dqn_141 (v : Nat → Int32) : dp_n (dq_141 v) = 66 := (dq_nN (dq_140 v) 24 1 24).trans (congrArg (· + 1) (dqn_140 v))
def dq_142 (v : Nat → Int32) : dp_M := dp_setR (dq_141 v) 51 17 (some 65)
theorem dqn_142 (v : Nat → Int32) : dp_n (dq_142 v) = 66 := (dq_nR (dq_141 v) 51 17 (some 65)).trans (dqn_141 v)
def dq_143 (v : Nat → Int32) : dp_M := dp_new (dq_142 v) 8 1 8
theorem dqn_143 (v : Nat → Int32) : dp_n (dq_143 v) = 67 := (dq_nN (dq_142 v) 8 1 8).trans (congrArg (· + 1) (dqn_142 v))
def dq_144 (v : Nat → Int32) : dp_M := dp_setR (dq_143 v) 51 18 (some 66)
theorem dqn_144 (v : Nat → Int32) : dp_n (dq_144 v) = 67 := (dq_nR (dq_143 v) 51 18 (some 66)).trans (dqn_143 v)
def dq_145 (v : Nat → Int32) : dp_M := dp_new (dq_144 v) 301 3 301
theorem dqn_145 (v : Nat → Int32) : dp_n (dq_145 v) = 68 := (dq_nN (dq_144 v) 301 3 301).trans (congrArg (· + 1) (dqn_144 v))
def dq_146 (v : Nat → Int32) : dp_M := dp_setR (dq_145 v) 51 19 (some 67)
theorem dqn_146 (v : Nat → Int32) : dp_n (dq_146 v) = 68 := (dq_nR (dq_145 v) 51 19 (some 67)).trans (dqn_145 v)
def dq_147 (v : Nat → Int32) : dp_M := dp_setR (dq_146 v) 0 3 (some 51)
theorem dqn_147 (v : Nat → Int32) : dp_n (dq_147 v) = 68 := (dq_nR (dq_146 v) 0 3 (some 51)).trans (dqn_146 v)
def dq_148 (v : Nat → Int32) : dp_M := dp_new (dq_147 v) 0 17 (dp_nf 7)
theorem dqn_148 (v : Nat → Int32) : dp_n (dq_148 v) = 69 := (dq_nN (dq_147 v) 0 17 (dp_nf 7)).trans (congrArg (· + 1) (dqn_147 v))
def dq_149 (v : Nat → Int32) : dp_M := dp_setI (dq_148 v) 68 2 (-1 : Int32)
theorem dqn_149 (v : Nat → Int32) : dp_n (dq_149 v) = 69 := (dq_nI (dq_148 v) 68 2 (-1 : Int32)).trans (dqn_148 v)
def dq_150 (v : Nat → Int32) : dp_M := dp_new (dq_149 v) 1024 4 1024
theorem dqn_150 (v : Nat → Int32) : dp_n (dq_150 v) = 70 := (dq_nN (dq_149 v) 1024 4 1024).trans (congrArg (· + 1) (dqn_149 v))
def dq_151 (v : Nat → Int32) : dp_M := dp_setR (dq_150 v) 68 3 (some 69)
theorem dqn_151 (v : Nat → Int32) : dp_n (dq_151 v) = 70 := (dq_nR (dq_150 v) 68 3 (some 69)).trans (dqn_150 v)
def dq_152 (v : Nat → Int32) : dp_M := dp_new (dq_151 v) 400 4 400
theorem dqn_152 (v : Nat → Int32) : dp_n (dq_152 v) = 71 := (dq_nN (dq_151 v) 400 4 400).trans (congrArg (· + 1) (dqn_151 v))
def dq_153 (v : Nat → Int32) : dp_M := dp_setR (dq_152 v) 68 4 (some 70)
theorem dqn_153 (v : Nat → Int32) : dp_n (dq_153 v) = 71 := (dq_nR (dq_152 v) 68 4 (some 70)).trans (dqn_152 v)
def dq_154 (v : Nat → Int32) : dp_M := dp_new (dq_153 v) 420 1 420
theorem dqn_154 (v : Nat → Int32) : dp_n (dq_154 v) = 72 := (dq_nN (dq_153 v) 420 1 420).trans (congrArg (· + 1) (dqn_153 v))
def dq_155 (v : Nat → Int32) : dp_M := dp_setR (dq_154 v) 68 5 (some 71)
theorem dqn_155 (v : Nat → Int32) : dp_n (dq_155 v) = 72 := (dq_nR (dq_154 v) 68 5 (some 71)).trans (dqn_154 v)
def dq_156 (v : Nat → Int32) : dp_M := dp_new (dq_155 v) 400 1 400
theorem dqn_156 (v : Nat → Int32) : dp_n (dq_156 v) = 73 := (dq_nN (dq_155 v) 400 1 400).trans (congrArg (· + 1) (dqn_155 v))
def dq_157 (v : Nat → Int32) : dp_M := dp_setR (dq_156 v) 68 6 (some 72)
theorem dqn_157 (v : Nat → Int32) : dp_n (dq_157 v) = 73 := (dq_nR (dq_156 v) 68 6 (some 72)).trans (dqn_156 v)
def dq_158 (v : Nat → Int32) : dp_M := dp_new (dq_157 v) 60 1 60
theorem dqn_158 (v : Nat → Int32) : dp_n (dq_158 v) = 74 := (dq_nN (dq_157 v) 60 1 60).trans (congrArg (· + 1) (dqn_157 v))
def dq_159 (v : Nat → Int32) : dp_M := dp_setR (dq_158 v) 68 7 (some 73)
theorem dqn_159 (v : Nat → Int32) : dp_n (dq_159 v) = 74 := (dq_nR (dq_158 v) 68 7 (some 73)).trans (dqn_158 v)
def dq_160 (v : Nat → Int32) : dp_M := dp_new (dq_159 v) 840 1 840
theorem dqn_160 (v : Nat → Int32) : dp_n (dq_160 v) = 75 := (dq_nN (dq_159 v) 840 1 840).trans (congrArg (· + 1) (dqn_159 v))
def dq_161 (v : Nat → Int32) : dp_M := dp_setR (dq_160 v) 68 8 (some 74)
theorem dqn_161 (v : Nat → Int32) : dp_n (dq_161 v) = 75 := (dq_nR (dq_160 v) 68 8 (some 74)).trans (dqn_160 v)
def dq_162 (v : Nat → Int32) : dp_M := dp_setR (dq_161 v) 0 4 (some 68)
theorem dqn_162 (v : Nat → Int32) : dp_n (dq_162 v) = 75 := (dq_nR (dq_161 v) 0 4 (some 68)).trans (dqn_161 v)
def dq_163 (v : Nat → Int32) : dp_M := dp_new (dq_162 v) 0 15 (dp_nf 5)
theorem dqn_163 (v : Nat → Int32) : dp_n (dq_163 v) = 76 := (dq_nN (dq_162 v) 0 15 (dp_nf 5)).trans (congrArg (· + 1) (dqn_162 v))
def dq_164 (v : Nat → Int32) : dp_M := dp_new (dq_163 v) 16 2 16
theorem dqn_164 (v : Nat → Int32) : dp_n (dq_164 v) = 77 := (dq_nN (dq_163 v) 16 2 16).trans (congrArg (· + 1) (dqn_163 v))
def dq_165 (v : Nat → Int32) : dp_M := dp_setR (dq_164 v) 75 2 (some 76)
theorem dqn_165 (v : Nat → Int32) : dp_n (dq_165 v) = 77 := (dq_nR (dq_164 v) 75 2 (some 76)).trans (dqn_164 v)
def dq_166 (v : Nat → Int32) : dp_M := dp_new (dq_165 v) 16 1 16
theorem dqn_166 (v : Nat → Int32) : dp_n (dq_166 v) = 78 := (dq_nN (dq_165 v) 16 1 16).trans (congrArg (· + 1) (dqn_165 v))
def dq_167 (v : Nat → Int32) : dp_M := dp_setR (dq_166 v) 75 3 (some 77)
theorem dqn_167 (v : Nat → Int32) : dp_n (dq_167 v) = 78 := (dq_nR (dq_166 v) 75 3 (some 77)).trans (dqn_166 v)
def dq_168 (v : Nat → Int32) : dp_M := dp_new (dq_167 v) 16 1 16
theorem dqn_168 (v : Nat → Int32) : dp_n (dq_168 v) = 79 := (dq_nN (dq_167 v) 16 1 16).trans (congrArg (· + 1) (dqn_167 v))
def dq_169 (v : Nat → Int32) : dp_M := dp_setR (dq_168 v) 75 4 (some 78)
theorem dqn_169 (v : Nat → Int32) : dp_n (dq_169 v) = 79 := (dq_nR (dq_168 v) 75 4 (some 78)).trans (dqn_168 v)
def dq_170 (v : Nat → Int32) : dp_M := dp_new (dq_169 v) 16 1 16
theorem dqn_170 (v : Nat → Int32) : dp_n (dq_170 v) = 80 := (dq_nN (dq_169 v) 16 1 16).trans (congrArg (· + 1) (dqn_169 v))
def dq_171 (v : Nat → Int32) : dp_M := dp_setR (dq_170 v) 75 5 (some 79)
theorem dqn_171 (v : Nat → Int32) : dp_n (dq_171 v) = 80 := (dq_nR (dq_170 v) 75 5 (some 79)).trans (dqn_170 v)
def dq_172 (v : Nat → Int32) : dp_M := dp_new (dq_171 v) 6416 3 6416
theorem dqn_172 (v : Nat → Int32) : dp_n (dq_172 v) = 81 := (dq_nN (dq_171 v) 6416 3 6416).trans (congrArg (· + 1) (dqn_171 v))
def dq_173 (v : Nat → Int32) : dp_M := dp_setR (dq_172 v) 75 6 (some 80)
theorem dqn_173 (v : Nat → Int32) : dp_n (dq_173 v) = 81 := (dq_nR (dq_172 v) 75 6 (some 80)).trans (dqn_172 v)
def dq_174 (v : Nat → Int32) : dp_M := dp_new (dq_173 v) 6416 2 6416
theorem dqn_174 (v : Nat → Int32) : dp_n (dq_174 v) = 82 := (dq_nN (dq_173 v) 6416 2 6416).trans (congrArg (· + 1) (dqn_173 v))
def dq_175 (v : Nat → Int32) : dp_M := dp_setR (dq_174 v) 75 7 (some 81)
theorem dqn_175 (v : Nat → Int32) : dp_n (dq_175 v) = 82 := (dq_nR (dq_174 v) 75 7 (some 81)).trans (dqn_174 v)
def dq_176 (v : Nat → Int32) : dp_M := dp_new (dq_175 v) 400 1 400
theorem dqn_176 (v : Nat → Int32) : dp_n (dq_176 v) = 83 := (dq_nN (dq_175 v) 400 1 400).trans (congrArg (· + 1) (dqn_175 v))
def dq_177 (v : Nat → Int32) : dp_M := dp_setR (dq_176 v) 75 8 (some 82)
theorem dqn_177 (v : Nat → Int32) : dp_n (dq_177 v) = 83 := (dq_nR (dq_176 v) 75 8 (some 82)).trans (dqn_176 v)
def dq_178 (v : Nat → Int32) : dp_M := dp_new (dq_177 v) 400 1 400
theorem dqn_178 (v : Nat → Int32) : dp_n (dq_178 v) = 84 := (dq_nN (dq_177 v) 400 1 400).trans (congrArg (· + 1) (dqn_177 v))
def dq_179 (v : Nat → Int32) : dp_M := dp_setR (dq_178 v) 75 9 (some 83)
theorem dqn_179 (v : Nat → Int32) : dp_n (dq_179 v) = 84 := (dq_nR (dq_178 v) 75 9 (some 83)).trans (dqn_178 v)
def dq_180 (v : Nat → Int32) : dp_M := dp_new (dq_179 v) 400 1 400
theorem dqn_180 (v : Nat → Int32) : dp_n (dq_180 v) = 85 := (dq_nN (dq_179 v) 400 1 400).trans (congrArg (· + 1) (dqn_179 v))
def dq_181 (v : Nat → Int32) : dp_M := dp_setR (dq_180 v) 75 10 (some 84)
theorem dqn_181 (v : Nat → Int32) : dp_n (dq_181 v) = 85 := (dq_nR (dq_180 v) 75 10 (some 84)).trans (dqn_180 v)
def dq_182 (v : Nat → Int32) : dp_M := dp_new (dq_181 v) 400 2 400
theorem dqn_182 (v : Nat → Int32) : dp_n (dq_182 v) = 86 := (dq_nN (dq_181 v) 400 2 400).trans (congrArg (· + 1) (dqn_181 v))
def dq_183 (v : Nat → Int32) : dp_M := dp_setR (dq_182 v) 75 11 (some 85)
theorem dqn_183 (v : Nat → Int32) : dp_n (dq_183 v) = 86 := (dq_nR (dq_182 v) 75 11 (some 85)).trans (dqn_182 v)
def dq_184 (v : Nat → Int32) : dp_M := dp_new (dq_183 v) 400 2 400
theorem dqn_184 (v : Nat → Int32) : dp_n (dq_184 v) = 87 := (dq_nN (dq_183 v) 400 2 400).trans (congrArg (· + 1) (dqn_183 v))
def dq_185 (v : Nat → Int32) : dp_M := dp_setR (dq_184 v) 75 12 (some 86)
theorem dqn_185 (v : Nat → Int32) : dp_n (dq_185 v) = 87 := (dq_nR (dq_184 v) 75 12 (some 86)).trans (dqn_184 v)
def dq_186 (v : Nat → Int32) : dp_M := dp_new (dq_185 v) 400 1 400
theorem dqn_186 (v : Nat → Int32) : dp_n (dq_186 v) = 88 := (dq_nN (dq_185 v) 400 1 400).trans (congrArg (· + 1) (dqn_185 v))
def dq_187 (v : Nat → Int32) : dp_M := dp_setR (dq_186 v) 75 13 (some 87)
theorem dqn_187 (v : Nat → Int32) : dp_n (dq_187 v) = 88 := (dq_nR (dq_186 v) 75 13 (some 87)).trans (dqn_186 v)
def dq_188 (v : Nat → Int32) : dp_M := dp_new (dq_187 v) 400 2 400
theorem dqn_188 (v : Nat → Int32) : dp_n (dq_188 v) = 89 := (dq_nN (dq_187 v) 400 2 400).trans (congrArg (· + 1) (dqn_187 v))
def dq_189 (v : Nat → Int32) : dp_M := dp_setR (dq_188 v) 75 14 (some 88)
theorem dqn_189 (v : Nat → Int32) : dp_n (dq_189 v) = 89 := (dq_nR (dq_188 v) 75 14 (some 88)).trans (dqn_188 v)
def dq_190 (v : Nat → Int32) : dp_M := dp_new (dq_189 v) 400 1 400
theorem dqn_190 (v : Nat → Int32) : dp_n (dq_190 v) = 90 := (dq_nN (dq_189 v) 400 1 400).trans (congrArg (· + 1) (dqn_189 v))
def dq_191 (v : Nat → Int32) : dp_M := dp_setR (dq_190 v) 75 15 (some 89)
theorem dqn_191 (v : Nat → Int32) : dp_n (dq_191 v) = 90 := (dq_nR (dq_190 v) 75 15 (some 89)).trans (dqn_190 v)
def dq_192 (v : Nat → Int32) : dp_M := dp_setR (dq_191 v) 0 5 (some 75)
theorem dqn_192 (v : Nat → Int32) : dp_n (dq_192 v) = 90 := (dq_nR (dq_191 v) 0 5 (some 75)).trans (dqn_191 v)
def dq_193 (v : Nat → Int32) : dp_M := dp_new (dq_192 v) 0 18 (dp_nf 8)
theorem dqn_193 (v : Nat → Int32) : dp_n (dq_193 v) = 91 := (dq_nN (dq_192 v) 0 18 (dp_nf 8)).trans (congrArg (· + 1) (dqn_192 v))
def dq_194 (v : Nat → Int32) : dp_M := dp_new (dq_193 v) 8 1 8
theorem dqn_194 (v : Nat → Int32) : dp_n (dq_194 v) = 92 := (dq_nN (dq_193 v) 8 1 8).trans (congrArg (· + 1) (dqn_193 v))
def dq_195 (v : Nat → Int32) : dp_M := dp_setR (dq_194 v) 90 4 (some 91)
theorem dqn_195 (v : Nat → Int32) : dp_n (dq_195 v) = 92 := (dq_nR (dq_194 v) 90 4 (some 91)).trans (dqn_194 v)
def dq_196 (v : Nat → Int32) : dp_M := dp_new (dq_195 v) 4 3 4
theorem dqn_196 (v : Nat → Int32) : dp_n (dq_196 v) = 93 := (dq_nN (dq_195 v) 4 3 4).trans (congrArg (· + 1) (dqn_195 v))
def dq_197 (v : Nat → Int32) : dp_M := dp_setR (dq_196 v) 90 5 (some 92)
theorem dqn_197 (v : Nat → Int32) : dp_n (dq_197 v) = 93 := (dq_nR (dq_196 v) 90 5 (some 92)).trans (dqn_196 v)
def dq_198 (v : Nat → Int32) : dp_M := dp_new (dq_197 v) 4 1 4
theorem dqn_198 (v : Nat → Int32) : dp_n (dq_198 v) = 94 := (dq_nN (dq_197 v) 4 1 4).trans (congrArg (· + 1) (dqn_197 v))
def dq_199 (v : Nat → Int32) : dp_M := dp_setR (dq_198 v) 90 6 (some 93)
theorem dqn_199 (v : Nat → Int32) : dp_n (dq_199 v) = 94 := (dq_nR (dq_198 v) 90 6 (some 93)).trans (dqn_198 v)
def dq_200 (v : Nat → Int32) : dp_M := dp_new (dq_199 v) 320 1 320
theorem dqn_200 (v : Nat → Int32) : dp_n (dq_200 v) = 95 := (dq_nN (dq_199 v) 320 1 320).trans (congrArg (· + 1) (dqn_199 v))
def dq_201 (v : Nat → Int32) : dp_M := dp_setR (dq_200 v) 90 7 (some 94)
theorem dqn_201 (v : Nat → Int32) : dp_n (dq_201 v) = 95 := (dq_nR (dq_200 v) 90 7 (some 94)).trans (dqn_200 v)
def dq_202 (v : Nat → Int32) : dp_M := dp_new (dq_201 v) 656 2 656
theorem dqn_202 (v : Nat → Int32) : dp_n (dq_202 v) = 96 := (dq_nN (dq_201 v) 656 2 656).trans (congrArg (· + 1) (dqn_201 v))
def dq_203 (v : Nat → Int32) : dp_M := dp_setR (dq_202 v) 90 8 (some 95)
theorem dqn_203 (v : Nat → Int32) : dp_n (dq_203 v) = 96 := (dq_nR (dq_202 v) 90 8 (some 95)).trans (dqn_202 v)
def dq_204 (v : Nat → Int32) : dp_M := dp_new (dq_203 v) 4812 2 4812
theorem dqn_204 (v : Nat → Int32) : dp_n (dq_204 v) = 97 := (dq_nN (dq_203 v) 4812 2 4812).trans (congrArg (· + 1) (dqn_203 v))
def dq_205 (v : Nat → Int32) : dp_M := dp_setR (dq_204 v) 90 9 (some 96)
theorem dqn_205 (v : Nat → Int32) : dp_n (dq_205 v) = 97 := (dq_nR (dq_204 v) 90 9 (some 96)).trans (dqn_204 v)
def dq_206 (v : Nat → Int32) : dp_M := dp_setR (dq_205 v) 0 6 (some 90)
theorem dqn_206 (v : Nat → Int32) : dp_n (dq_206 v) = 97 := (dq_nR (dq_205 v) 0 6 (some 90)).trans (dqn_205 v)
def dq_207 (v : Nat → Int32) : dp_M := dp_new (dq_206 v) 0 13 (dp_nf 3)
theorem dqn_207 (v : Nat → Int32) : dp_n (dq_207 v) = 98 := (dq_nN (dq_206 v) 0 13 (dp_nf 3)).trans (congrArg (· + 1) (dqn_206 v))
def dq_208 (v : Nat → Int32) : dp_M := dp_setI (dq_207 v) 97 2 (-1 : Int32)
theorem dqn_208 (v : Nat → Int32) : dp_n (dq_208 v) = 98 := (dq_nI (dq_207 v) 97 2 (-1 : Int32)).trans (dqn_207 v)
def dq_209 (v : Nat → Int32) : dp_M := dp_setI (dq_208 v) 97 3 (-1 : Int32)
theorem dqn_209 (v : Nat → Int32) : dp_n (dq_209 v) = 98 := (dq_nI (dq_208 v) 97 3 (-1 : Int32)).trans (dqn_208 v)
def dq_210 (v : Nat → Int32) : dp_M := dp_setI (dq_209 v) 97 5 (-1 : Int32)
theorem dqn_210 (v : Nat → Int32) : dp_n (dq_210 v) = 98 := (dq_nI (dq_209 v) 97 5 (-1 : Int32)).trans (dqn_209 v)
def dq_211 (v : Nat → Int32) : dp_M := dp_new (dq_210 v) 16 1 16
theorem dqn_211 (v : Nat → Int32) : dp_n (dq_211 v) = 99 := (dq_nN (dq_210 v) 16 1 16).trans (congrArg (· + 1) (dqn_210 v))
def dq_212 (v : Nat → Int32) : dp_M := dp_setR (dq_211 v) 97 7 (some 98)
theorem dqn_212 (v : Nat → Int32) : dp_n (dq_212 v) = 99 := (dq_nR (dq_211 v) 97 7 (some 98)).trans (dqn_211 v)
def dq_213 (v : Nat → Int32) : dp_M := dp_new (dq_212 v) 4 1 4
theorem dqn_213 (v : Nat → Int32) : dp_n (dq_213 v) = 100 := (dq_nN (dq_212 v) 4 1 4).trans (congrArg (· + 1) (dqn_212 v))
def dq_214 (v : Nat → Int32) : dp_M := dp_setR (dq_213 v) 97 8 (some 99)
theorem dqn_214 (v : Nat → Int32) : dp_n (dq_214 v) = 100 := (dq_nR (dq_213 v) 97 8 (some 99)).trans (dqn_213 v)
def dq_215 (v : Nat → Int32) : dp_M := dp_new (dq_214 v) 5600 1 5600
theorem dqn_215 (v : Nat → Int32) : dp_n (dq_215 v) = 101 := (dq_nN (dq_214 v) 5600 1 5600).trans (congrArg (· + 1) (dqn_214 v))
def dq_216 (v : Nat → Int32) : dp_M := dp_setR (dq_215 v) 97 9 (some 100)
theorem dqn_216 (v : Nat → Int32) : dp_n (dq_216 v) = 101 := (dq_nR (dq_215 v) 97 9 (some 100)).trans (dqn_215 v)
def dq_217 (v : Nat → Int32) : dp_M := dp_new (dq_216 v) 16000 1 16000
theorem dqn_217 (v : Nat → Int32) : dp_n (dq_217 v) = 102 := (dq_nN (dq_216 v) 16000 1 16000).trans (congrArg (· + 1) (dqn_216 v))
def dq_218 (v : Nat → Int32) : dp_M := dp_setR (dq_217 v) 97 10 (some 101)
theorem dqn_218 (v : Nat → Int32) : dp_n (dq_218 v) = 102 := (dq_nR (dq_217 v) 97 10 (some 101)).trans (dqn_217 v)
def dq_219 (v : Nat → Int32) : dp_M := dp_new (dq_218 v) 16000 1 16000
theorem dqn_219 (v : Nat → Int32) : dp_n (dq_219 v) = 103 := (dq_nN (dq_218 v) 16000 1 16000).trans (congrArg (· + 1) (dqn_218 v))
def dq_220 (v : Nat → Int32) : dp_M := dp_setR (dq_219 v) 97 11 (some 102)
theorem dqn_220 (v : Nat → Int32) : dp_n (dq_220 v) = 103 := (dq_nR (dq_219 v) 97 11 (some 102)).trans (dqn_219 v)
def dq_221 (v : Nat → Int32) : dp_M := dp_new (dq_220 v) 4000 1 4000
theorem dqn_221 (v : Nat → Int32) : dp_n (dq_221 v) = 104 := (dq_nN (dq_220 v) 4000 1 4000).trans (congrArg (· + 1) (dqn_220 v))
def dq_222 (v : Nat → Int32) : dp_M := dp_setR (dq_221 v) 97 12 (some 103)
theorem dqn_222 (v : Nat → Int32) : dp_n (dq_222 v) = 104 := (dq_nR (dq_221 v) 97 12 (some 103)).trans (dqn_221 v)
def dq_223 (v : Nat → Int32) : dp_M := dp_new (dq_222 v) 4000 1 4000
theorem dqn_223 (v : Nat → Int32) : dp_n (dq_223 v) = 105 := (dq_nN (dq_222 v) 4000 1 4000).trans (congrArg (· + 1) (dqn_222 v))
def dq_224 (v : Nat → Int32) : dp_M := dp_setR (dq_223 v) 97 13 (some 104)
theorem dqn_224 (v : Nat → Int32) : dp_n (dq_224 v) = 105 := (dq_nR (dq_223 v) 97 13 (some 104)).trans (dqn_223 v)
def dq_225 (v : Nat → Int32) : dp_M := dp_new (dq_224 v) 12 2 12
theorem dqn_225 (v : Nat → Int32) : dp_n (dq_225 v) = 106 := (dq_nN (dq_224 v) 12 2 12).trans (congrArg (· + 1) (dqn_224 v))
def dq_226 (v : Nat → Int32) : dp_M := dp_setR (dq_225 v) 97 14 (some 105)
theorem dqn_226 (v : Nat → Int32) : dp_n (dq_226 v) = 106 := (dq_nR (dq_225 v) 97 14 (some 105)).trans (dqn_225 v)
def dq_227 (v : Nat → Int32) : dp_M := dp_new (dq_226 v) 4 2 4
theorem dqn_227 (v : Nat → Int32) : dp_n (dq_227 v) = 107 := (dq_nN (dq_226 v) 4 2 4).trans (congrArg (· + 1) (dqn_226 v))
def dq_228 (v : Nat → Int32) : dp_M := dp_setR (dq_227 v) 97 15 (some 106)
theorem dqn_228 (v : Nat → Int32) : dp_n (dq_228 v) = 107 := (dq_nR (dq_227 v) 97 15 (some 106)).trans (dqn_227 v)
def dq_229 (v : Nat → Int32) : dp_M := dp_new (dq_228 v) 4 2 4
theorem dqn_229 (v : Nat → Int32) : dp_n (dq_229 v) = 108 := (dq_nN (dq_228 v) 4 2 4).trans (congrArg (· + 1) (dqn_228 v))
def dq_230 (v : Nat → Int32) : dp_M := dp_setR (dq_229 v) 97 16 (some 107)
theorem dqn_230 (v : Nat → Int32) : dp_n (dq_230 v) = 108 := (dq_nR (dq_229 v) 97 16 (some 107)).trans (dqn_229 v)
def dq_231 (v : Nat → Int32) : dp_M := dp_setR (dq_230 v) 0 7 (some 97)
theorem dqn_231 (v : Nat → Int32) : dp_n (dq_231 v) = 108 := (dq_nR (dq_230 v) 0 7 (some 97)).trans (dqn_230 v)
def dq_232 (v : Nat → Int32) : dp_M := dp_new (dq_231 v) 0 10 (dp_nf 0)
theorem dqn_232 (v : Nat → Int32) : dp_n (dq_232 v) = 109 := (dq_nN (dq_231 v) 0 10 (dp_nf 0)).trans (congrArg (· + 1) (dqn_231 v))
def dq_233 (v : Nat → Int32) : dp_M := dp_new (dq_232 v) 400 1 400
theorem dqn_233 (v : Nat → Int32) : dp_n (dq_233 v) = 110 := (dq_nN (dq_232 v) 400 1 400).trans (congrArg (· + 1) (dqn_232 v))
def dq_234 (v : Nat → Int32) : dp_M := dp_setR (dq_233 v) 108 6 (some 109)
theorem dqn_234 (v : Nat → Int32) : dp_n (dq_234 v) = 110 := (dq_nR (dq_233 v) 108 6 (some 109)).trans (dqn_233 v)
def dq_235 (v : Nat → Int32) : dp_M := dp_new (dq_234 v) 300 3 300
theorem dqn_235 (v : Nat → Int32) : dp_n (dq_235 v) = 111 := (dq_nN (dq_234 v) 300 3 300).trans (congrArg (· + 1) (dqn_234 v))
def dq_236 (v : Nat → Int32) : dp_M := dp_setR (dq_235 v) 108 7 (some 110)
theorem dqn_236 (v : Nat → Int32) : dp_n (dq_236 v) = 111 := (dq_nR (dq_235 v) 108 7 (some 110)).trans (dqn_235 v)
def dq_237 (v : Nat → Int32) : dp_M := dp_new (dq_236 v) 9200 2 9200
theorem dqn_237 (v : Nat → Int32) : dp_n (dq_237 v) = 112 := (dq_nN (dq_236 v) 9200 2 9200).trans (congrArg (· + 1) (dqn_236 v))
def dq_238 (v : Nat → Int32) : dp_M := dp_setR (dq_237 v) 108 8 (some 111)
theorem dqn_238 (v : Nat → Int32) : dp_n (dq_238 v) = 112 := (dq_nR (dq_237 v) 108 8 (some 111)).trans (dqn_237 v)
def dq_239 (v : Nat → Int32) : dp_M := dp_new (dq_238 v) 8 2 8
theorem dqn_239 (v : Nat → Int32) : dp_n (dq_239 v) = 113 := (dq_nN (dq_238 v) 8 2 8).trans (congrArg (· + 1) (dqn_238 v))
def dq_240 (v : Nat → Int32) : dp_M := dp_setR (dq_239 v) 108 9 (some 112)
theorem dqn_240 (v : Nat → Int32) : dp_n (dq_240 v) = 113 := (dq_nR (dq_239 v) 108 9 (some 112)).trans (dqn_239 v)
def dq_241 (v : Nat → Int32) : dp_M := dp_new (dq_240 v) 60 2 60
theorem dqn_241 (v : Nat → Int32) : dp_n (dq_241 v) = 114 := (dq_nN (dq_240 v) 60 2 60).trans (congrArg (· + 1) (dqn_240 v))
def dq_242 (v : Nat → Int32) : dp_M := dp_setR (dq_241 v) 108 10 (some 113)
theorem dqn_242 (v : Nat → Int32) : dp_n (dq_242 v) = 114 := (dq_nR (dq_241 v) 108 10 (some 113)).trans (dqn_241 v)
def dq_243 (v : Nat → Int32) : dp_M := dp_setR (dq_242 v) 108 0 (some 51)
theorem dqn_243 (v : Nat → Int32) : dp_n (dq_243 v) = 114 := (dq_nR (dq_242 v) 108 0 (some 51)).trans (dqn_242 v)
def dq_244 (v : Nat → Int32) : dp_M := dp_setR (dq_243 v) 108 1 (some 75)
theorem dqn_244 (v : Nat → Int32) : dp_n (dq_244 v) = 114 := (dq_nR (dq_243 v) 108 1 (some 75)).trans (dqn_243 v)
def dq_245 (v : Nat → Int32) : dp_M := dp_setR (dq_244 v) 108 2 (some 90)
theorem dqn_245 (v : Nat → Int32) : dp_n (dq_245 v) = 114 := (dq_nR (dq_244 v) 108 2 (some 90)).trans (dqn_244 v)
def dq_246 (v : Nat → Int32) : dp_M := dp_setR (dq_245 v) 108 3 (some 97)
theorem dqn_246 (v : Nat → Int32) : dp_n (dq_246 v) = 114 := (dq_nR (dq_245 v) 108 3 (some 97)).trans (dqn_245 v)
def dq_247 (v : Nat → Int32) : dp_M := dp_setR (dq_246 v) 108 4 (some 37)
theorem dqn_247 (v : Nat → Int32) : dp_n (dq_247 v) = 114 := (dq_nR (dq_246 v) 108 4 (some 37)).trans (dqn_246 v)
def dq_248 (v : Nat → Int32) : dp_M := dp_setR (dq_247 v) 0 8 (some 108)
theorem dqn_248 (v : Nat → Int32) : dp_n (dq_248 v) = 114 := (dq_nR (dq_247 v) 0 8 (some 108)).trans (dqn_247 v)
def dq_249 (v : Nat → Int32) : dp_M := dp_new (dq_248 v) 0 22 (dp_nf 12)
theorem dqn_249 (v : Nat → Int32) : dp_n (dq_249 v) = 115 := (dq_nN (dq_248 v) 0 22 (dp_nf 12)).trans (congrArg (· + 1) (dqn_248 v))
def dq_250 (v : Nat → Int32) : dp_M := dp_new (dq_249 v) 100 1 100
theorem dqn_250 (v : Nat → Int32) : dp_n (dq_250 v) = 116 := (dq_nN (dq_249 v) 100 1 100).trans (congrArg (· + 1) (dqn_249 v))
def dq_251 (v : Nat → Int32) : dp_M := dp_setR (dq_250 v) 114 4 (some 115)
theorem dqn_251 (v : Nat → Int32) : dp_n (dq_251 v) = 116 := (dq_nR (dq_250 v) 114 4 (some 115)).trans (dqn_250 v)
def dq_252 (v : Nat → Int32) : dp_M := dp_new (dq_251 v) 100 1 100
theorem dqn_252 (v : Nat → Int32) : dp_n (dq_252 v) = 117 := (dq_nN (dq_251 v) 100 1 100).trans (congrArg (· + 1) (dqn_251 v))
def dq_253 (v : Nat → Int32) : dp_M := dp_setR (dq_252 v) 114 5 (some 116)
theorem dqn_253 (v : Nat → Int32) : dp_n (dq_253 v) = 117 := (dq_nR (dq_252 v) 114 5 (some 116)).trans (dqn_252 v)
def dq_254 (v : Nat → Int32) : dp_M := dp_new (dq_253 v) 100 1 100
theorem dqn_254 (v : Nat → Int32) : dp_n (dq_254 v) = 118 := (dq_nN (dq_253 v) 100 1 100).trans (congrArg (· + 1) (dqn_253 v))
def dq_255 (v : Nat → Int32) : dp_M := dp_setR (dq_254 v) 114 6 (some 117)
theorem dqn_255 (v : Nat → Int32) : dp_n (dq_255 v) = 118 := (dq_nR (dq_254 v) 114 6 (some 117)).trans (dqn_254 v)
def dq_256 (v : Nat → Int32) : dp_M := dp_new (dq_255 v) 100 1 100
theorem dqn_256 (v : Nat → Int32) : dp_n (dq_256 v) = 119 := (dq_nN (dq_255 v) 100 1 100).trans (congrArg (· + 1) (dqn_255 v))
def dq_257 (v : Nat → Int32) : dp_M := dp_setR (dq_256 v) 114 7 (some 118)
theorem dqn_257 (v : Nat → Int32) : dp_n (dq_257 v) = 119 := (dq_nR (dq_256 v) 114 7 (some 118)).trans (dqn_256 v)
def dq_258 (v : Nat → Int32) : dp_M := dp_new (dq_257 v) 10000 3 10000
theorem dqn_258 (v : Nat → Int32) : dp_n (dq_258 v) = 120 := (dq_nN (dq_257 v) 10000 3 10000).trans (congrArg (· + 1) (dqn_257 v))
def dq_259 (v : Nat → Int32) : dp_M := dp_setR (dq_258 v) 114 8 (some 119)
theorem dqn_259 (v : Nat → Int32) : dp_n (dq_259 v) = 120 := (dq_nR (dq_258 v) 114 8 (some 119)).trans (dqn_258 v)
def dq_260 (v : Nat → Int32) : dp_M := dp_new (dq_259 v) 12 3 12
theorem dqn_260 (v : Nat → Int32) : dp_n (dq_260 v) = 121 := (dq_nN (dq_259 v) 12 3 12).trans (congrArg (· + 1) (dqn_259 v))
def dq_261 (v : Nat → Int32) : dp_M := dp_setR (dq_260 v) 114 10 (some 120)
theorem dqn_261 (v : Nat → Int32) : dp_n (dq_261 v) = 121 := (dq_nR (dq_260 v) 114 10 (some 120)).trans (dqn_260 v)
def dq_262 (v : Nat → Int32) : dp_M := dp_new (dq_261 v) 12 1 12
theorem dqn_262 (v : Nat → Int32) : dp_n (dq_262 v) = 122 := (dq_nN (dq_261 v) 12 1 12).trans (congrArg (· + 1) (dqn_261 v))
def dq_263 (v : Nat → Int32) : dp_M := dp_setR (dq_262 v) 114 11 (some 121)
theorem dqn_263 (v : Nat → Int32) : dp_n (dq_263 v) = 122 := (dq_nR (dq_262 v) 114 11 (some 121)).trans (dqn_262 v)
def dq_264 (v : Nat → Int32) : dp_M := dp_new (dq_263 v) 12 1 12
theorem dqn_264 (v : Nat → Int32) : dp_n (dq_264 v) = 123 := (dq_nN (dq_263 v) 12 1 12).trans (congrArg (· + 1) (dqn_263 v))
def dq_265 (v : Nat → Int32) : dp_M := dp_setR (dq_264 v) 114 12 (some 122)
theorem dqn_265 (v : Nat → Int32) : dp_n (dq_265 v) = 123 := (dq_nR (dq_264 v) 114 12 (some 122)).trans (dqn_264 v)
def dq_266 (v : Nat → Int32) : dp_M := dp_new (dq_265 v) 480 1 480
theorem dqn_266 (v : Nat → Int32) : dp_n (dq_266 v) = 124 := (dq_nN (dq_265 v) 480 1 480).trans (congrArg (· + 1) (dqn_265 v))
def dq_267 (v : Nat → Int32) : dp_M := dp_setR (dq_266 v) 114 13 (some 123)
theorem dqn_267 (v : Nat → Int32) : dp_n (dq_267 v) = 124 := (dq_nR (dq_266 v) 114 13 (some 123)).trans (dqn_266 v)
def dq_268 (v : Nat → Int32) : dp_M := dp_new (dq_267 v) 480 1 480
theorem dqn_268 (v : Nat → Int32) : dp_n (dq_268 v) = 125 := (dq_nN (dq_267 v) 480 1 480).trans (congrArg (· + 1) (dqn_267 v))
def dq_269 (v : Nat → Int32) : dp_M := dp_setR (dq_268 v) 114 14 (some 124)
theorem dqn_269 (v : Nat → Int32) : dp_n (dq_269 v) = 125 := (dq_nR (dq_268 v) 114 14 (some 124)).trans (dqn_268 v)
def dq_270 (v : Nat → Int32) : dp_M := dp_new (dq_269 v) 480 1 480
theorem dqn_270 (v : Nat → Int32) : dp_n (dq_270 v) = 126 := (dq_nN (dq_269 v) 480 1 480).trans (congrArg (· + 1) (dqn_269 v))
def dq_271 (v : Nat → Int32) : dp_M := dp_setR (dq_270 v) 114 15 (some 125)
theorem dqn_271 (v : Nat → Int32) : dp_n (dq_271 v) = 126 := (dq_nR (dq_270 v) 114 15 (some 125)).trans (dqn_270 v)
def dq_272 (v : Nat → Int32) : dp_M := dp_new (dq_271 v) 2048 2 2048
theorem dqn_272 (v : Nat → Int32) : dp_n (dq_272 v) = 127 := (dq_nN (dq_271 v) 2048 2 2048).trans (congrArg (· + 1) (dqn_271 v))
def dq_273 (v : Nat → Int32) : dp_M := dp_setR (dq_272 v) 114 16 (some 126)
theorem dqn_273 (v : Nat → Int32) : dp_n (dq_273 v) = 127 := (dq_nR (dq_272 v) 114 16 (some 126)).trans (dqn_272 v)
def dq_274 (v : Nat → Int32) : dp_M := dp_new (dq_273 v) 2048 1 2048
theorem dqn_274 (v : Nat → Int32) : dp_n (dq_274 v) = 128 := (dq_nN (dq_273 v) 2048 1 2048).trans (congrArg (· + 1) (dqn_273 v))
def dq_275 (v : Nat → Int32) : dp_M := dp_setR (dq_274 v) 114 17 (some 127)
theorem dqn_275 (v : Nat → Int32) : dp_n (dq_275 v) = 128 := (dq_nR (dq_274 v) 114 17 (some 127)).trans (dqn_274 v)
def dq_276 (v : Nat → Int32) : dp_M := dp_new (dq_275 v) 2048 1 2048
theorem dqn_276 (v : Nat → Int32) : dp_n (dq_276 v) = 129 := (dq_nN (dq_275 v) 2048 1 2048).trans (congrArg (· + 1) (dqn_275 v))
def dq_277 (v : Nat → Int32) : dp_M := dp_setR (dq_276 v) 114 18 (some 128)
theorem dqn_277 (v : Nat → Int32) : dp_n (dq_277 v) = 129 := (dq_nR (dq_276 v) 114 18 (some 128)).trans (dqn_276 v)
def dq_278 (v : Nat → Int32) : dp_M := dp_new (dq_277 v) 4096 1 4096
theorem dqn_278 (v : Nat → Int32) : dp_n (dq_278 v) = 130 := (dq_nN (dq_277 v) 4096 1 4096).trans (congrArg (· + 1) (dqn_277 v))
def dq_279 (v : Nat → Int32) : dp_M := dp_setR (dq_278 v) 114 20 (some 129)
theorem dqn_279 (v : Nat → Int32) : dp_n (dq_279 v) = 130 := (dq_nR (dq_278 v) 114 20 (some 129)).trans (dqn_278 v)
def dq_280 (v : Nat → Int32) : dp_M := dp_new (dq_279 v) 4 1 4
theorem dqn_280 (v : Nat → Int32) : dp_n (dq_280 v) = 131 := (dq_nN (dq_279 v) 4 1 4).trans (congrArg (· + 1) (dqn_279 v))
def dq_281 (v : Nat → Int32) : dp_M := dp_setR (dq_280 v) 114 21 (some 130)
theorem dqn_281 (v : Nat → Int32) : dp_n (dq_281 v) = 131 := (dq_nR (dq_280 v) 114 21 (some 130)).trans (dqn_280 v)
def dq_282 (v : Nat → Int32) : dp_M := dp_new (dq_281 v) 4 1 4
theorem dqn_282 (v : Nat → Int32) : dp_n (dq_282 v) = 132 := (dq_nN (dq_281 v) 4 1 4).trans (congrArg (· + 1) (dqn_281 v))
def dq_283 (v : Nat → Int32) : dp_M := dp_setR (dq_282 v) 114 22 (some 131)
theorem dqn_283 (v : Nat → Int32) : dp_n (dq_283 v) = 132 := (dq_nR (dq_282 v) 114 22 (some 131)).trans (dqn_282 v)
def dq_284 (v : Nat → Int32) : dp_M := dp_new (dq_283 v) 100 3 100
theorem dqn_284 (v : Nat → Int32) : dp_n (dq_284 v) = 133 := (dq_nN (dq_283 v) 100 3 100).trans (congrArg (· + 1) (dqn_283 v))
def dq_285 (v : Nat → Int32) : dp_M := dp_setR (dq_284 v) 114 24 (some 132)
theorem dqn_285 (v : Nat → Int32) : dp_n (dq_285 v) = 133 := (dq_nR (dq_284 v) 114 24 (some 132)).trans (dqn_284 v)
def dq_286 (v : Nat → Int32) : dp_M := dp_new (dq_285 v) 20 1 20
theorem dqn_286 (v : Nat → Int32) : dp_n (dq_286 v) = 134 := (dq_nN (dq_285 v) 20 1 20).trans (congrArg (· + 1) (dqn_285 v))
def dq_287 (v : Nat → Int32) : dp_M := dp_setR (dq_286 v) 114 28 (some 133)
theorem dqn_287 (v : Nat → Int32) : dp_n (dq_287 v) = 134 := (dq_nR (dq_286 v) 114 28 (some 133)).trans (dqn_286 v)
def dq_288 (v : Nat → Int32) : dp_M := dp_new (dq_287 v) 20 1 20
theorem dqn_288 (v : Nat → Int32) : dp_n (dq_288 v) = 135 := (dq_nN (dq_287 v) 20 1 20).trans (congrArg (· + 1) (dqn_287 v))
def dq_289 (v : Nat → Int32) : dp_M := dp_setR (dq_288 v) 114 29 (some 134)
theorem dqn_289 (v : Nat → Int32) : dp_n (dq_289 v) = 135 := (dq_nR (dq_288 v) 114 29 (some 134)).trans (dqn_288 v)
def dq_290 (v : Nat → Int32) : dp_M := dp_new (dq_289 v) 100 1 100
theorem dqn_290 (v : Nat → Int32) : dp_n (dq_290 v) = 136 := (dq_nN (dq_289 v) 100 1 100).trans (congrArg (· + 1) (dqn_289 v))
def dq_291 (v : Nat → Int32) : dp_M := dp_setR (dq_290 v) 114 30 (some 135)
theorem dqn_291 (v : Nat → Int32) : dp_n (dq_291 v) = 136 := (dq_nR (dq_290 v) 114 30 (some 135)).trans (dqn_290 v)
def dq_292 (v : Nat → Int32) : dp_M := dp_new (dq_291 v) 100 1 100
theorem dqn_292 (v : Nat → Int32) : dp_n (dq_292 v) = 137 := (dq_nN (dq_291 v) 100 1 100).trans (congrArg (· + 1) (dqn_291 v))
def dq_293 (v : Nat → Int32) : dp_M := dp_setR (dq_292 v) 114 31 (some 136)
theorem dqn_293 (v : Nat → Int32) : dp_n (dq_293 v) = 137 := (dq_nR (dq_292 v) 114 31 (some 136)).trans (dqn_292 v)
def dq_294 (v : Nat → Int32) : dp_M := dp_new (dq_293 v) 100 1 100
theorem dqn_294 (v : Nat → Int32) : dp_n (dq_294 v) = 138 := (dq_nN (dq_293 v) 100 1 100).trans (congrArg (· + 1) (dqn_293 v))
def dq_295 (v : Nat → Int32) : dp_M := dp_setR (dq_294 v) 114 32 (some 137)
theorem dqn_295 (v : Nat → Int32) : dp_n (dq_295 v) = 138 := (dq_nR (dq_294 v) 114 32 (some 137)).trans (dqn_294 v)
def dq_296 (v : Nat → Int32) : dp_M := dp_new (dq_295 v) 100 1 100
theorem dqn_296 (v : Nat → Int32) : dp_n (dq_296 v) = 139 := (dq_nN (dq_295 v) 100 1 100).trans (congrArg (· + 1) (dqn_295 v))
def dq_297 (v : Nat → Int32) : dp_M := dp_setR (dq_296 v) 114 33 (some 138)
theorem dqn_297 (v : Nat → Int32) : dp_n (dq_297 v) = 139 := (dq_nR (dq_296 v) 114 33 (some 138)).trans (dqn_296 v)
def dq_298 (v : Nat → Int32) : dp_M := dp_new (dq_297 v) 100 1 100
theorem dqn_298 (v : Nat → Int32) : dp_n (dq_298 v) = 140 := (dq_nN (dq_297 v) 100 1 100).trans (congrArg (· + 1) (dqn_297 v))
def dq_299 (v : Nat → Int32) : dp_M := dp_setR (dq_298 v) 114 34 (some 139)
theorem dqn_299 (v : Nat → Int32) : dp_n (dq_299 v) = 140 := (dq_nR (dq_298 v) 114 34 (some 139)).trans (dqn_298 v)
def dq_300 (v : Nat → Int32) : dp_M := dp_new (dq_299 v) 100 1 100
theorem dqn_300 (v : Nat → Int32) : dp_n (dq_300 v) = 141 := (dq_nN (dq_299 v) 100 1 100).trans (congrArg (· + 1) (dqn_299 v))
def dq_301 (v : Nat → Int32) : dp_M := dp_setR (dq_300 v) 114 35 (some 140)
theorem dqn_301 (v : Nat → Int32) : dp_n (dq_301 v) = 141 := (dq_nR (dq_300 v) 114 35 (some 140)).trans (dqn_300 v)
def dq_302 (v : Nat → Int32) : dp_M := dp_new (dq_301 v) 100 1 100
theorem dqn_302 (v : Nat → Int32) : dp_n (dq_302 v) = 142 := (dq_nN (dq_301 v) 100 1 100).trans (congrArg (· + 1) (dqn_301 v))
def dq_303 (v : Nat → Int32) : dp_M := dp_setR (dq_302 v) 114 36 (some 141)
theorem dqn_303 (v : Nat → Int32) : dp_n (dq_303 v) = 142 := (dq_nR (dq_302 v) 114 36 (some 141)).trans (dqn_302 v)
def dq_304 (v : Nat → Int32) : dp_M := dp_new (dq_303 v) 100 1 100
theorem dqn_304 (v : Nat → Int32) : dp_n (dq_304 v) = 143 := (dq_nN (dq_303 v) 100 1 100).trans (congrArg (· + 1) (dqn_303 v))
def dq_305 (v : Nat → Int32) : dp_M := dp_setR (dq_304 v) 114 39 (some 142)
theorem dqn_305 (v : Nat → Int32) : dp_n (dq_305 v) = 143 := (dq_nR (dq_304 v) 114 39 (some 142)).trans (dqn_304 v)
def dq_306 (v : Nat → Int32) : dp_M := dp_new (dq_305 v) 100 1 100
theorem dqn_306 (v : Nat → Int32) : dp_n (dq_306 v) = 144 := (dq_nN (dq_305 v) 100 1 100).trans (congrArg (· + 1) (dqn_305 v))
def dq_307 (v : Nat → Int32) : dp_M := dp_setR (dq_306 v) 114 40 (some 143)
theorem dqn_307 (v : Nat → Int32) : dp_n (dq_307 v) = 144 := (dq_nR (dq_306 v) 114 40 (some 143)).trans (dqn_306 v)
def dq_308 (v : Nat → Int32) : dp_M := dp_new (dq_307 v) 100 1 100
theorem dqn_308 (v : Nat → Int32) : dp_n (dq_308 v) = 145 := (dq_nN (dq_307 v) 100 1 100).trans (congrArg (· + 1) (dqn_307 v))
def dq_309 (v : Nat → Int32) : dp_M := dp_setR (dq_308 v) 114 41 (some 144)
theorem dqn_309 (v : Nat → Int32) : dp_n (dq_309 v) = 145 := (dq_nR (dq_308 v) 114 41 (some 144)).trans (dqn_308 v)
def dq_310 (v : Nat → Int32) : dp_M := dp_new (dq_309 v) 100 1 100
theorem dqn_310 (v : Nat → Int32) : dp_n (dq_310 v) = 146 := (dq_nN (dq_309 v) 100 1 100).trans (congrArg (· + 1) (dqn_309 v))
def dq_311 (v : Nat → Int32) : dp_M := dp_setR (dq_310 v) 114 42 (some 145)
theorem dqn_311 (v : Nat → Int32) : dp_n (dq_311 v) = 146 := (dq_nR (dq_310 v) 114 42 (some 145)).trans (dqn_310 v)
def dq_312 (v : Nat → Int32) : dp_M := dp_new (dq_311 v) 100 1 100
theorem dqn_312 (v : Nat → Int32) : dp_n (dq_312 v) = 147 := (dq_nN (dq_311 v) 100 1 100).trans (congrArg (· + 1) (dqn_311 v))
def dq_313 (v : Nat → Int32) : dp_M := dp_setR (dq_312 v) 114 43 (some 146)
theorem dqn_313 (v : Nat → Int32) : dp_n (dq_313 v) = 147 := (dq_nR (dq_312 v) 114 43 (some 146)).trans (dqn_312 v)
def dq_314 (v : Nat → Int32) : dp_M := dp_new (dq_313 v) 300 1 300
theorem dqn_314 (v : Nat → Int32) : dp_n (dq_314 v) = 148 := (dq_nN (dq_313 v) 300 1 300).trans (congrArg (· + 1) (dqn_313 v))
def dq_315 (v : Nat → Int32) : dp_M := dp_setR (dq_314 v) 114 45 (some 147)
theorem dqn_315 (v : Nat → Int32) : dp_n (dq_315 v) = 148 := (dq_nR (dq_314 v) 114 45 (some 147)).trans (dqn_314 v)
def dq_316 (v : Nat → Int32) : dp_M := dp_new (dq_315 v) 300 1 300
theorem dqn_316 (v : Nat → Int32) : dp_n (dq_316 v) = 149 := (dq_nN (dq_315 v) 300 1 300).trans (congrArg (· + 1) (dqn_315 v))
def dq_317 (v : Nat → Int32) : dp_M := dp_setR (dq_316 v) 114 46 (some 148)
theorem dqn_317 (v : Nat → Int32) : dp_n (dq_317 v) = 149 := (dq_nR (dq_316 v) 114 46 (some 148)).trans (dqn_316 v)
def dq_318 (v : Nat → Int32) : dp_M := dp_new (dq_317 v) 4000 1 4000
theorem dqn_318 (v : Nat → Int32) : dp_n (dq_318 v) = 150 := (dq_nN (dq_317 v) 4000 1 4000).trans (congrArg (· + 1) (dqn_317 v))
def dq_319 (v : Nat → Int32) : dp_M := dp_setR (dq_318 v) 114 47 (some 149)
theorem dqn_319 (v : Nat → Int32) : dp_n (dq_319 v) = 150 := (dq_nR (dq_318 v) 114 47 (some 149)).trans (dqn_318 v)
def dq_320 (v : Nat → Int32) : dp_M := dp_new (dq_319 v) 4000 1 4000
theorem dqn_320 (v : Nat → Int32) : dp_n (dq_320 v) = 151 := (dq_nN (dq_319 v) 4000 1 4000).trans (congrArg (· + 1) (dqn_319 v))
def dq_321 (v : Nat → Int32) : dp_M := dp_setR (dq_320 v) 114 48 (some 150)
theorem dqn_321 (v : Nat → Int32) : dp_n (dq_321 v) = 151 := (dq_nR (dq_320 v) 114 48 (some 150)).trans (dqn_320 v)
def dq_322 (v : Nat → Int32) : dp_M := dp_new (dq_321 v) 4 1 4
theorem dqn_322 (v : Nat → Int32) : dp_n (dq_322 v) = 152 := (dq_nN (dq_321 v) 4 1 4).trans (congrArg (· + 1) (dqn_321 v))
def dq_323 (v : Nat → Int32) : dp_M := dp_setR (dq_322 v) 114 49 (some 151)
theorem dqn_323 (v : Nat → Int32) : dp_n (dq_323 v) = 152 := (dq_nR (dq_322 v) 114 49 (some 151)).trans (dqn_322 v)
def dq_324 (v : Nat → Int32) : dp_M := dp_new (dq_323 v) 4 1 4
theorem dqn_324 (v : Nat → Int32) : dp_n (dq_324 v) = 153 := (dq_nN (dq_323 v) 4 1 4).trans (congrArg (· + 1) (dqn_323 v))
def dq_325 (v : Nat → Int32) : dp_M := dp_setR (dq_324 v) 114 50 (some 152)
theorem dqn_325 (v : Nat → Int32) : dp_n (dq_325 v) = 153 := (dq_nR (dq_324 v) 114 50 (some 152)).trans (dqn_324 v)
def dq_326 (v : Nat → Int32) : dp_M := dp_new (dq_325 v) 4 1 4
theorem dqn_326 (v : Nat → Int32) : dp_n (dq_326 v) = 154 := (dq_nN (dq_325 v) 4 1 4).trans (congrArg (· + 1) (dqn_325 v))
def dq_327 (v : Nat → Int32) : dp_M := dp_setR (dq_326 v) 114 51 (some 153)
theorem dqn_327 (v : Nat → Int32) : dp_n (dq_327 v) = 154 := (dq_nR (dq_326 v) 114 51 (some 153)).trans (dqn_326 v)
def dq_328 (v : Nat → Int32) : dp_M := dp_new (dq_327 v) 64 1 64
theorem dqn_328 (v : Nat → Int32) : dp_n (dq_328 v) = 155 := (dq_nN (dq_327 v) 64 1 64).trans (congrArg (· + 1) (dqn_327 v))
def dq_329 (v : Nat → Int32) : dp_M := dp_setR (dq_328 v) 114 53 (some 154)
theorem dqn_329 (v : Nat → Int32) : dp_n (dq_329 v) = 155 := (dq_nR (dq_328 v) 114 53 (some 154)).trans (dqn_328 v)
def dq_330 (v : Nat → Int32) : dp_M := dp_new (dq_329 v) 8 1 8
theorem dqn_330 (v : Nat → Int32) : dp_n (dq_330 v) = 156 := (dq_nN (dq_329 v) 8 1 8).trans (congrArg (· + 1) (dqn_329 v))
def dq_331 (v : Nat → Int32) : dp_M := dp_setR (dq_330 v) 114 54 (some 155)
theorem dqn_331 (v : Nat → Int32) : dp_n (dq_331 v) = 156 := (dq_nR (dq_330 v) 114 54 (some 155)).trans (dqn_330 v)
def dq_332 (v : Nat → Int32) : dp_M := dp_new (dq_331 v) 301 1 301
theorem dqn_332 (v : Nat → Int32) : dp_n (dq_332 v) = 157 := (dq_nN (dq_331 v) 301 1 301).trans (congrArg (· + 1) (dqn_331 v))
def dq_333 (v : Nat → Int32) : dp_M := dp_setR (dq_332 v) 114 56 (some 156)
theorem dqn_333 (v : Nat → Int32) : dp_n (dq_333 v) = 157 := (dq_nR (dq_332 v) 114 56 (some 156)).trans (dqn_332 v)
def dq_334 (v : Nat → Int32) : dp_M := dp_new (dq_333 v) 301 1 301
theorem dqn_334 (v : Nat → Int32) : dp_n (dq_334 v) = 158 := (dq_nN (dq_333 v) 301 1 301).trans (congrArg (· + 1) (dqn_333 v))
def dq_335 (v : Nat → Int32) : dp_M := dp_setR (dq_334 v) 114 57 (some 157)
theorem dqn_335 (v : Nat → Int32) : dp_n (dq_335 v) = 158 := (dq_nR (dq_334 v) 114 57 (some 157)).trans (dqn_334 v)
def dq_336 (v : Nat → Int32) : dp_M := dp_new (dq_335 v) 301 1 301
theorem dqn_336 (v : Nat → Int32) : dp_n (dq_336 v) = 159 := (dq_nN (dq_335 v) 301 1 301).trans (congrArg (· + 1) (dqn_335 v))
def dq_337 (v : Nat → Int32) : dp_M := dp_setR (dq_336 v) 114 58 (some 158)
theorem dqn_337 (v : Nat → Int32) : dp_n (dq_337 v) = 159 := (dq_nR (dq_336 v) 114 58 (some 158)).trans (dqn_336 v)
def dq_338 (v : Nat → Int32) : dp_M := dp_new (dq_337 v) 301 1 301
theorem dqn_338 (v : Nat → Int32) : dp_n (dq_338 v) = 160 := (dq_nN (dq_337 v) 301 1 301).trans (congrArg (· + 1) (dqn_337 v))
def dq_339 (v : Nat → Int32) : dp_M := dp_setR (dq_338 v) 114 59 (some 159)
theorem dqn_339 (v : Nat → Int32) : dp_n (dq_339 v) = 160 := (dq_nR (dq_338 v) 114 59 (some 159)).trans (dqn_338 v)
def dq_340 (v : Nat → Int32) : dp_M := dp_new (dq_339 v) 301 1 301
theorem dqn_340 (v : Nat → Int32) : dp_n (dq_340 v) = 161 := (dq_nN (dq_339 v) 301 1 301).trans (congrArg (· + 1) (dqn_339 v))
def dq_341 (v : Nat → Int32) : dp_M := dp_setR (dq_340 v) 114 60 (some 160)
theorem dqn_341 (v : Nat → Int32) : dp_n (dq_341 v) = 161 := (dq_nR (dq_340 v) 114 60 (some 160)).trans (dqn_340 v)
def dq_342 (v : Nat → Int32) : dp_M := dp_new (dq_341 v) 301 1 301
theorem dqn_342 (v : Nat → Int32) : dp_n (dq_342 v) = 162 := (dq_nN (dq_341 v) 301 1 301).trans (congrArg (· + 1) (dqn_341 v))
def dq_343 (v : Nat → Int32) : dp_M := dp_setR (dq_342 v) 114 61 (some 161)
theorem dqn_343 (v : Nat → Int32) : dp_n (dq_343 v) = 162 := (dq_nR (dq_342 v) 114 61 (some 161)).trans (dqn_342 v)
def dq_344 (v : Nat → Int32) : dp_M := dp_new (dq_343 v) 301 1 301
theorem dqn_344 (v : Nat → Int32) : dp_n (dq_344 v) = 163 := (dq_nN (dq_343 v) 301 1 301).trans (congrArg (· + 1) (dqn_343 v))
def dq_345 (v : Nat → Int32) : dp_M := dp_setR (dq_344 v) 114 62 (some 162)
theorem dqn_345 (v : Nat → Int32) : dp_n (dq_345 v) = 163 := (dq_nR (dq_344 v) 114 62 (some 162)).trans (dqn_344 v)
def dq_346 (v : Nat → Int32) : dp_M := dp_new (dq_345 v) 301 1 301
theorem dqn_346 (v : Nat → Int32) : dp_n (dq_346 v) = 164 := (dq_nN (dq_345 v) 301 1 301).trans (congrArg (· + 1) (dqn_345 v))
def dq_347 (v : Nat → Int32) : dp_M := dp_setR (dq_346 v) 114 63 (some 163)
theorem dqn_347 (v : Nat → Int32) : dp_n (dq_347 v) = 164 := (dq_nR (dq_346 v) 114 63 (some 163)).trans (dqn_346 v)
def dq_348 (v : Nat → Int32) : dp_M := dp_new (dq_347 v) 301 1 301
theorem dqn_348 (v : Nat → Int32) : dp_n (dq_348 v) = 165 := (dq_nN (dq_347 v) 301 1 301).trans (congrArg (· + 1) (dqn_347 v))
def dq_349 (v : Nat → Int32) : dp_M := dp_setR (dq_348 v) 114 64 (some 164)
theorem dqn_349 (v : Nat → Int32) : dp_n (dq_349 v) = 165 := (dq_nR (dq_348 v) 114 64 (some 164)).trans (dqn_348 v)
def dq_350 (v : Nat → Int32) : dp_M := dp_new (dq_349 v) 2408 1 2408
theorem dqn_350 (v : Nat → Int32) : dp_n (dq_350 v) = 166 := (dq_nN (dq_349 v) 2408 1 2408).trans (congrArg (· + 1) (dqn_349 v))
def dq_351 (v : Nat → Int32) : dp_M := dp_setR (dq_350 v) 114 65 (some 165)
theorem dqn_351 (v : Nat → Int32) : dp_n (dq_351 v) = 166 := (dq_nR (dq_350 v) 114 65 (some 165)).trans (dqn_350 v)
def dq_352 (v : Nat → Int32) : dp_M := dp_new (dq_351 v) 2408 1 2408
theorem dqn_352 (v : Nat → Int32) : dp_n (dq_352 v) = 167 := (dq_nN (dq_351 v) 2408 1 2408).trans (congrArg (· + 1) (dqn_351 v))
def dq_353 (v : Nat → Int32) : dp_M := dp_setR (dq_352 v) 114 66 (some 166)
theorem dqn_353 (v : Nat → Int32) : dp_n (dq_353 v) = 167 := (dq_nR (dq_352 v) 114 66 (some 166)).trans (dqn_352 v)
def dq_354 (v : Nat → Int32) : dp_M := dp_new (dq_353 v) 300 1 300
theorem dqn_354 (v : Nat → Int32) : dp_n (dq_354 v) = 168 := (dq_nN (dq_353 v) 300 1 300).trans (congrArg (· + 1) (dqn_353 v))
def dq_355 (v : Nat → Int32) : dp_M := dp_setR (dq_354 v) 114 69 (some 167)
theorem dqn_355 (v : Nat → Int32) : dp_n (dq_355 v) = 168 := (dq_nR (dq_354 v) 114 69 (some 167)).trans (dqn_354 v)
def dq_356 (v : Nat → Int32) : dp_M := dp_new (dq_355 v) 300 1 300
theorem dqn_356 (v : Nat → Int32) : dp_n (dq_356 v) = 169 := (dq_nN (dq_355 v) 300 1 300).trans (congrArg (· + 1) (dqn_355 v))
def dq_357 (v : Nat → Int32) : dp_M := dp_setR (dq_356 v) 114 71 (some 168)
theorem dqn_357 (v : Nat → Int32) : dp_n (dq_357 v) = 169 := (dq_nR (dq_356 v) 114 71 (some 168)).trans (dqn_356 v)
def dq_358 (v : Nat → Int32) : dp_M := dp_new (dq_357 v) 301 3 301
theorem dqn_358 (v : Nat → Int32) : dp_n (dq_358 v) = 170 := (dq_nN (dq_357 v) 301 3 301).trans (congrArg (· + 1) (dqn_357 v))
def dq_359 (v : Nat → Int32) : dp_M := dp_setR (dq_358 v) 114 73 (some 169)
theorem dqn_359 (v : Nat → Int32) : dp_n (dq_359 v) = 170 := (dq_nR (dq_358 v) 114 73 (some 169)).trans (dqn_358 v)
def dq_360 (v : Nat → Int32) : dp_M := dp_new (dq_359 v) 400 1 400
theorem dqn_360 (v : Nat → Int32) : dp_n (dq_360 v) = 171 := (dq_nN (dq_359 v) 400 1 400).trans (congrArg (· + 1) (dqn_359 v))
def dq_361 (v : Nat → Int32) : dp_M := dp_setR (dq_360 v) 114 74 (some 170)
theorem dqn_361 (v : Nat → Int32) : dp_n (dq_361 v) = 171 := (dq_nR (dq_360 v) 114 74 (some 170)).trans (dqn_360 v)
def dq_362 (v : Nat → Int32) : dp_M := dp_new (dq_361 v) 120400 1 120400
theorem dqn_362 (v : Nat → Int32) : dp_n (dq_362 v) = 172 := (dq_nN (dq_361 v) 120400 1 120400).trans (congrArg (· + 1) (dqn_361 v))
def dq_363 (v : Nat → Int32) : dp_M := dp_setR (dq_362 v) 114 76 (some 171)
theorem dqn_363 (v : Nat → Int32) : dp_n (dq_363 v) = 172 := (dq_nR (dq_362 v) 114 76 (some 171)).trans (dqn_362 v)
def dq_364 (v : Nat → Int32) : dp_M := dp_new (dq_363 v) 301 1 301
theorem dqn_364 (v : Nat → Int32) : dp_n (dq_364 v) = 173 := (dq_nN (dq_363 v) 301 1 301).trans (congrArg (· + 1) (dqn_363 v))
def dq_365 (v : Nat → Int32) : dp_M := dp_setR (dq_364 v) 114 77 (some 172)
theorem dqn_365 (v : Nat → Int32) : dp_n (dq_365 v) = 173 := (dq_nR (dq_364 v) 114 77 (some 172)).trans (dqn_364 v)
def dq_366 (v : Nat → Int32) : dp_M := dp_new (dq_365 v) 400 1 400
theorem dqn_366 (v : Nat → Int32) : dp_n (dq_366 v) = 174 := (dq_nN (dq_365 v) 400 1 400).trans (congrArg (· + 1) (dqn_365 v))
def dq_367 (v : Nat → Int32) : dp_M := dp_setR (dq_366 v) 114 78 (some 173)
theorem dqn_367 (v : Nat → Int32) : dp_n (dq_367 v) = 174 := (dq_nR (dq_366 v) 114 78 (some 173)).trans (dqn_366 v)
def dq_368 (v : Nat → Int32) : dp_M := dp_new (dq_367 v) 120 1 120
theorem dqn_368 (v : Nat → Int32) : dp_n (dq_368 v) = 175 := (dq_nN (dq_367 v) 120 1 120).trans (congrArg (· + 1) (dqn_367 v))
def dq_369 (v : Nat → Int32) : dp_M := dp_setR (dq_368 v) 114 82 (some 174)
theorem dqn_369 (v : Nat → Int32) : dp_n (dq_369 v) = 175 := (dq_nR (dq_368 v) 114 82 (some 174)).trans (dqn_368 v)
def dq_370 (v : Nat → Int32) : dp_M := dp_new (dq_369 v) 120 1 120
theorem dqn_370 (v : Nat → Int32) : dp_n (dq_370 v) = 176 := (dq_nN (dq_369 v) 120 1 120).trans (congrArg (· + 1) (dqn_369 v))
def dq_371 (v : Nat → Int32) : dp_M := dp_setR (dq_370 v) 114 83 (some 175)
theorem dqn_371 (v : Nat → Int32) : dp_n (dq_371 v) = 176 := (dq_nR (dq_370 v) 114 83 (some 175)).trans (dqn_370 v)
def dq_372 (v : Nat → Int32) : dp_M := dp_new (dq_371 v) 120 1 120
theorem dqn_372 (v : Nat → Int32) : dp_n (dq_372 v) = 177 := (dq_nN (dq_371 v) 120 1 120).trans (congrArg (· + 1) (dqn_371 v))
def dq_373 (v : Nat → Int32) : dp_M := dp_setR (dq_372 v) 114 84 (some 176)
theorem dqn_373 (v : Nat → Int32) : dp_n (dq_373 v) = 177 := (dq_nR (dq_372 v) 114 84 (some 176)).trans (dqn_372 v)
def dq_374 (v : Nat → Int32) : dp_M := dp_new (dq_373 v) 120 1 120
theorem dqn_374 (v : Nat → Int32) : dp_n (dq_374 v) = 178 := (dq_nN (dq_373 v) 120 1 120).trans (congrArg (· + 1) (dqn_373 v))
def dq_375 (v : Nat → Int32) : dp_M := dp_setR (dq_374 v) 114 85 (some 177)
theorem dqn_375 (v : Nat → Int32) : dp_n (dq_375 v) = 178 := (dq_nR (dq_374 v) 114 85 (some 177)).trans (dqn_374 v)
def dq_376 (v : Nat → Int32) : dp_M := dp_new (dq_375 v) 120 1 120
theorem dqn_376 (v : Nat → Int32) : dp_n (dq_376 v) = 179 := (dq_nN (dq_375 v) 120 1 120).trans (congrArg (· + 1) (dqn_375 v))
def dq_377 (v : Nat → Int32) : dp_M := dp_setR (dq_376 v) 114 86 (some 178)
theorem dqn_377 (v : Nat → Int32) : dp_n (dq_377 v) = 179 := (dq_nR (dq_376 v) 114 86 (some 178)).trans (dqn_376 v)
def dq_378 (v : Nat → Int32) : dp_M := dp_new (dq_377 v) 120 1 120
theorem dqn_378 (v : Nat → Int32) : dp_n (dq_378 v) = 180 := (dq_nN (dq_377 v) 120 1 120).trans (congrArg (· + 1) (dqn_377 v))
def dq_379 (v : Nat → Int32) : dp_M := dp_setR (dq_378 v) 114 87 (some 179)
theorem dqn_379 (v : Nat → Int32) : dp_n (dq_379 v) = 180 := (dq_nR (dq_378 v) 114 87 (some 179)).trans (dqn_378 v)
def dq_380 (v : Nat → Int32) : dp_M := dp_new (dq_379 v) 720 1 720
theorem dqn_380 (v : Nat → Int32) : dp_n (dq_380 v) = 181 := (dq_nN (dq_379 v) 720 1 720).trans (congrArg (· + 1) (dqn_379 v))
def dq_381 (v : Nat → Int32) : dp_M := dp_setR (dq_380 v) 114 88 (some 180)
theorem dqn_381 (v : Nat → Int32) : dp_n (dq_381 v) = 181 := (dq_nR (dq_380 v) 114 88 (some 180)).trans (dqn_380 v)
def dq_382 (v : Nat → Int32) : dp_M := dp_new (dq_381 v) 720 1 720
theorem dqn_382 (v : Nat → Int32) : dp_n (dq_382 v) = 182 := (dq_nN (dq_381 v) 720 1 720).trans (congrArg (· + 1) (dqn_381 v))
def dq_383 (v : Nat → Int32) : dp_M := dp_setR (dq_382 v) 114 89 (some 181)
theorem dqn_383 (v : Nat → Int32) : dp_n (dq_383 v) = 182 := (dq_nR (dq_382 v) 114 89 (some 181)).trans (dqn_382 v)
def dq_384 (v : Nat → Int32) : dp_M := dp_new (dq_383 v) 14 1 14
theorem dqn_384 (v : Nat → Int32) : dp_n (dq_384 v) = 183 := (dq_nN (dq_383 v) 14 1 14).trans (congrArg (· + 1) (dqn_383 v))
def dq_385 (v : Nat → Int32) : dp_M := dp_setR (dq_384 v) 114 93 (some 182)
theorem dqn_385 (v : Nat → Int32) : dp_n (dq_385 v) = 183 := (dq_nR (dq_384 v) 114 93 (some 182)).trans (dqn_384 v)
def dq_386 (v : Nat → Int32) : dp_M := dp_new (dq_385 v) 14 1 14
theorem dqn_386 (v : Nat → Int32) : dp_n (dq_386 v) = 184 := (dq_nN (dq_385 v) 14 1 14).trans (congrArg (· + 1) (dqn_385 v))
def dq_387 (v : Nat → Int32) : dp_M := dp_setR (dq_386 v) 114 94 (some 183)
theorem dqn_387 (v : Nat → Int32) : dp_n (dq_387 v) = 184 := (dq_nR (dq_386 v) 114 94 (some 183)).trans (dqn_386 v)
def dq_388 (v : Nat → Int32) : dp_M := dp_new (dq_387 v) 14 1 14
theorem dqn_388 (v : Nat → Int32) : dp_n (dq_388 v) = 185 := (dq_nN (dq_387 v) 14 1 14).trans (congrArg (· + 1) (dqn_387 v))
def dq_389 (v : Nat → Int32) : dp_M := dp_setR (dq_388 v) 114 95 (some 184)
theorem dqn_389 (v : Nat → Int32) : dp_n (dq_389 v) = 185 := (dq_nR (dq_388 v) 114 95 (some 184)).trans (dqn_388 v)
def dq_390 (v : Nat → Int32) : dp_M := dp_new (dq_389 v) 14 1 14
theorem dqn_390 (v : Nat → Int32) : dp_n (dq_390 v) = 186 := (dq_nN (dq_389 v) 14 1 14).trans (congrArg (· + 1) (dqn_389 v))
def dq_391 (v : Nat → Int32) : dp_M := dp_setR (dq_390 v) 114 96 (some 185)
theorem dqn_391 (v : Nat → Int32) : dp_n (dq_391 v) = 186 := (dq_nR (dq_390 v) 114 96 (some 185)).trans (dqn_390 v)
def dq_392 (v : Nat → Int32) : dp_M := dp_new (dq_391 v) 400 1 400
theorem dqn_392 (v : Nat → Int32) : dp_n (dq_392 v) = 187 := (dq_nN (dq_391 v) 400 1 400).trans (congrArg (· + 1) (dqn_391 v))
def dq_393 (v : Nat → Int32) : dp_M := dp_setR (dq_392 v) 114 98 (some 186)
theorem dqn_393 (v : Nat → Int32) : dp_n (dq_393 v) = 187 := (dq_nR (dq_392 v) 114 98 (some 186)).trans (dqn_392 v)
def dq_394 (v : Nat → Int32) : dp_M := dp_new (dq_393 v) 60 1 60
theorem dqn_394 (v : Nat → Int32) : dp_n (dq_394 v) = 188 := (dq_nN (dq_393 v) 60 1 60).trans (congrArg (· + 1) (dqn_393 v))
def dq_395 (v : Nat → Int32) : dp_M := dp_setR (dq_394 v) 114 99 (some 187)
theorem dqn_395 (v : Nat → Int32) : dp_n (dq_395 v) = 188 := (dq_nR (dq_394 v) 114 99 (some 187)).trans (dqn_394 v)
def dq_396 (v : Nat → Int32) : dp_M := dp_new (dq_395 v) 8 2 8
theorem dqn_396 (v : Nat → Int32) : dp_n (dq_396 v) = 189 := (dq_nN (dq_395 v) 8 2 8).trans (congrArg (· + 1) (dqn_395 v))
def dq_397 (v : Nat → Int32) : dp_M := dp_setR (dq_396 v) 114 101 (some 188)
theorem dqn_397 (v : Nat → Int32) : dp_n (dq_397 v) = 189 := (dq_nR (dq_396 v) 114 101 (some 188)).trans (dqn_396 v)
def dq_398 (v : Nat → Int32) : dp_M := dp_new (dq_397 v) 60 2 60
theorem dqn_398 (v : Nat → Int32) : dp_n (dq_398 v) = 190 := (dq_nN (dq_397 v) 60 2 60).trans (congrArg (· + 1) (dqn_397 v))
def dq_399 (v : Nat → Int32) : dp_M := dp_setR (dq_398 v) 114 102 (some 189)
theorem dqn_399 (v : Nat → Int32) : dp_n (dq_399 v) = 190 := (dq_nR (dq_398 v) 114 102 (some 189)).trans (dqn_398 v)
def dq_400 (v : Nat → Int32) : dp_M := dp_new (dq_399 v) 4000 1 4000
theorem dqn_400 (v : Nat → Int32) : dp_n (dq_400 v) = 191 := (dq_nN (dq_399 v) 4000 1 4000).trans (congrArg (· + 1) (dqn_399 v))
def dq_401 (v : Nat → Int32) : dp_M := dp_setR (dq_400 v) 114 103 (some 190)
theorem dqn_401 (v : Nat → Int32) : dp_n (dq_401 v) = 191 := (dq_nR (dq_400 v) 114 103 (some 190)).trans (dqn_400 v)
def dq_402 (v : Nat → Int32) : dp_M := dp_new (dq_401 v) 16 2 16
theorem dqn_402 (v : Nat → Int32) : dp_n (dq_402 v) = 192 := (dq_nN (dq_401 v) 16 2 16).trans (congrArg (· + 1) (dqn_401 v))
def dq_403 (v : Nat → Int32) : dp_M := dp_setR (dq_402 v) 114 106 (some 191)
theorem dqn_403 (v : Nat → Int32) : dp_n (dq_403 v) = 192 := (dq_nR (dq_402 v) 114 106 (some 191)).trans (dqn_402 v)
def dq_404 (v : Nat → Int32) : dp_M := dp_new (dq_403 v) 16 1 16
theorem dqn_404 (v : Nat → Int32) : dp_n (dq_404 v) = 193 := (dq_nN (dq_403 v) 16 1 16).trans (congrArg (· + 1) (dqn_403 v))
def dq_405 (v : Nat → Int32) : dp_M := dp_setR (dq_404 v) 114 107 (some 192)
theorem dqn_405 (v : Nat → Int32) : dp_n (dq_405 v) = 193 := (dq_nR (dq_404 v) 114 107 (some 192)).trans (dqn_404 v)
def dq_406 (v : Nat → Int32) : dp_M := dp_new (dq_405 v) 16 1 16
theorem dqn_406 (v : Nat → Int32) : dp_n (dq_406 v) = 194 := (dq_nN (dq_405 v) 16 1 16).trans (congrArg (· + 1) (dqn_405 v))
def dq_407 (v : Nat → Int32) : dp_M := dp_setR (dq_406 v) 114 108 (some 193)
theorem dqn_407 (v : Nat → Int32) : dp_n (dq_407 v) = 194 := (dq_nR (dq_406 v) 114 108 (some 193)).trans (dqn_406 v)
def dq_408 (v : Nat → Int32) : dp_M := dp_new (dq_407 v) 16 1 16
theorem dqn_408 (v : Nat → Int32) : dp_n (dq_408 v) = 195 := (dq_nN (dq_407 v) 16 1 16).trans (congrArg (· + 1) (dqn_407 v))
def dq_409 (v : Nat → Int32) : dp_M := dp_setR (dq_408 v) 114 109 (some 194)
theorem dqn_409 (v : Nat → Int32) : dp_n (dq_409 v) = 195 := (dq_nR (dq_408 v) 114 109 (some 194)).trans (dqn_408 v)
def dq_410 (v : Nat → Int32) : dp_M := dp_new (dq_409 v) 6416 3 6416
theorem dqn_410 (v : Nat → Int32) : dp_n (dq_410 v) = 196 := (dq_nN (dq_409 v) 6416 3 6416).trans (congrArg (· + 1) (dqn_409 v))
def dq_411 (v : Nat → Int32) : dp_M := dp_setR (dq_410 v) 114 110 (some 195)
theorem dqn_411 (v : Nat → Int32) : dp_n (dq_411 v) = 196 := (dq_nR (dq_410 v) 114 110 (some 195)).trans (dqn_410 v)
def dq_412 (v : Nat → Int32) : dp_M := dp_new (dq_411 v) 400 1 400
theorem dqn_412 (v : Nat → Int32) : dp_n (dq_412 v) = 197 := (dq_nN (dq_411 v) 400 1 400).trans (congrArg (· + 1) (dqn_411 v))
def dq_413 (v : Nat → Int32) : dp_M := dp_setR (dq_412 v) 114 112 (some 196)
theorem dqn_413 (v : Nat → Int32) : dp_n (dq_413 v) = 197 := (dq_nR (dq_412 v) 114 112 (some 196)).trans (dqn_412 v)
def dq_414 (v : Nat → Int32) : dp_M := dp_new (dq_413 v) 400 1 400
theorem dqn_414 (v : Nat → Int32) : dp_n (dq_414 v) = 198 := (dq_nN (dq_413 v) 400 1 400).trans (congrArg (· + 1) (dqn_413 v))
def dq_415 (v : Nat → Int32) : dp_M := dp_setR (dq_414 v) 114 113 (some 197)
theorem dqn_415 (v : Nat → Int32) : dp_n (dq_415 v) = 198 := (dq_nR (dq_414 v) 114 113 (some 197)).trans (dqn_414 v)
def dq_416 (v : Nat → Int32) : dp_M := dp_new (dq_415 v) 400 2 400
theorem dqn_416 (v : Nat → Int32) : dp_n (dq_416 v) = 199 := (dq_nN (dq_415 v) 400 2 400).trans (congrArg (· + 1) (dqn_415 v))
def dq_417 (v : Nat → Int32) : dp_M := dp_setR (dq_416 v) 114 114 (some 198)
theorem dqn_417 (v : Nat → Int32) : dp_n (dq_417 v) = 199 := (dq_nR (dq_416 v) 114 114 (some 198)).trans (dqn_416 v)
def dq_418 (v : Nat → Int32) : dp_M := dp_new (dq_417 v) 400 1 400
theorem dqn_418 (v : Nat → Int32) : dp_n (dq_418 v) = 200 := (dq_nN (dq_417 v) 400 1 400).trans (congrArg (· + 1) (dqn_417 v))
def dq_419 (v : Nat → Int32) : dp_M := dp_setR (dq_418 v) 114 115 (some 199)
theorem dqn_419 (v : Nat → Int32) : dp_n (dq_419 v) = 200 := (dq_nR (dq_418 v) 114 115 (some 199)).trans (dqn_418 v)
def dq_420 (v : Nat → Int32) : dp_M := dp_new (dq_419 v) 400 2 400
theorem dqn_420 (v : Nat → Int32) : dp_n (dq_420 v) = 201 := (dq_nN (dq_419 v) 400 2 400).trans (congrArg (· + 1) (dqn_419 v))
def dq_421 (v : Nat → Int32) : dp_M := dp_setR (dq_420 v) 114 116 (some 200)
theorem dqn_421 (v : Nat → Int32) : dp_n (dq_421 v) = 201 := (dq_nR (dq_420 v) 114 116 (some 200)).trans (dqn_420 v)
def dq_422 (v : Nat → Int32) : dp_M := dp_new (dq_421 v) 400 2 400
theorem dqn_422 (v : Nat → Int32) : dp_n (dq_422 v) = 202 := (dq_nN (dq_421 v) 400 2 400).trans (congrArg (· + 1) (dqn_421 v))
def dq_423 (v : Nat → Int32) : dp_M := dp_setR (dq_422 v) 114 117 (some 201)
theorem dqn_423 (v : Nat → Int32) : dp_n (dq_423 v) = 202 := (dq_nR (dq_422 v) 114 117 (some 201)).trans (dqn_422 v)
def dq_424 (v : Nat → Int32) : dp_M := dp_new (dq_423 v) 41 1 41
theorem dqn_424 (v : Nat → Int32) : dp_n (dq_424 v) = 203 := (dq_nN (dq_423 v) 41 1 41).trans (congrArg (· + 1) (dqn_423 v))
def dq_425 (v : Nat → Int32) : dp_M := dp_setR (dq_424 v) 114 121 (some 202)
theorem dqn_425 (v : Nat → Int32) : dp_n (dq_425 v) = 203 := (dq_nR (dq_424 v) 114 121 (some 202)).trans (dqn_424 v)
def dq_426 (v : Nat → Int32) : dp_M := dp_new (dq_425 v) 41 2 41
theorem dqn_426 (v : Nat → Int32) : dp_n (dq_426 v) = 204 := (dq_nN (dq_425 v) 41 2 41).trans (congrArg (· + 1) (dqn_425 v))
def dq_427 (v : Nat → Int32) : dp_M := dp_setR (dq_426 v) 114 122 (some 203)
theorem dqn_427 (v : Nat → Int32) : dp_n (dq_427 v) = 204 := (dq_nR (dq_426 v) 114 122 (some 203)).trans (dqn_426 v)
def dq_428 (v : Nat → Int32) : dp_M := dp_new (dq_427 v) 41 1 41
theorem dqn_428 (v : Nat → Int32) : dp_n (dq_428 v) = 205 := (dq_nN (dq_427 v) 41 1 41).trans (congrArg (· + 1) (dqn_427 v))
def dq_429 (v : Nat → Int32) : dp_M := dp_setR (dq_428 v) 114 123 (some 204)
theorem dqn_429 (v : Nat → Int32) : dp_n (dq_429 v) = 205 := (dq_nR (dq_428 v) 114 123 (some 204)).trans (dqn_428 v)
def dq_430 (v : Nat → Int32) : dp_M := dp_new (dq_429 v) 41 1 41
theorem dqn_430 (v : Nat → Int32) : dp_n (dq_430 v) = 206 := (dq_nN (dq_429 v) 41 1 41).trans (congrArg (· + 1) (dqn_429 v))
def dq_431 (v : Nat → Int32) : dp_M := dp_setR (dq_430 v) 114 124 (some 205)
theorem dqn_431 (v : Nat → Int32) : dp_n (dq_431 v) = 206 := (dq_nR (dq_430 v) 114 124 (some 205)).trans (dqn_430 v)
def dq_432 (v : Nat → Int32) : dp_M := dp_new (dq_431 v) 41 3 41
theorem dqn_432 (v : Nat → Int32) : dp_n (dq_432 v) = 207 := (dq_nN (dq_431 v) 41 3 41).trans (congrArg (· + 1) (dqn_431 v))
def dq_433 (v : Nat → Int32) : dp_M := dp_setR (dq_432 v) 114 125 (some 206)
theorem dqn_433 (v : Nat → Int32) : dp_n (dq_433 v) = 207 := (dq_nR (dq_432 v) 114 125 (some 206)).trans (dqn_432 v)
def dq_434 (v : Nat → Int32) : dp_M := dp_new (dq_433 v) 41 1 41
theorem dqn_434 (v : Nat → Int32) : dp_n (dq_434 v) = 208 := (dq_nN (dq_433 v) 41 1 41).trans (congrArg (· + 1) (dqn_433 v))
def dq_435 (v : Nat → Int32) : dp_M := dp_setR (dq_434 v) 114 126 (some 207)
theorem dqn_435 (v : Nat → Int32) : dp_n (dq_435 v) = 208 := (dq_nR (dq_434 v) 114 126 (some 207)).trans (dqn_434 v)
def dq_436 (v : Nat → Int32) : dp_M := dp_new (dq_435 v) 41 3 41
theorem dqn_436 (v : Nat → Int32) : dp_n (dq_436 v) = 209 := (dq_nN (dq_435 v) 41 3 41).trans (congrArg (· + 1) (dqn_435 v))
def dq_437 (v : Nat → Int32) : dp_M := dp_setR (dq_436 v) 114 127 (some 208)
theorem dqn_437 (v : Nat → Int32) : dp_n (dq_437 v) = 209 := (dq_nR (dq_436 v) 114 127 (some 208)).trans (dqn_436 v)
def dq_438 (v : Nat → Int32) : dp_M := dp_new (dq_437 v) 41 1 41
theorem dqn_438 (v : Nat → Int32) : dp_n (dq_438 v) = 210 := (dq_nN (dq_437 v) 41 1 41).trans (congrArg (· + 1) (dqn_437 v))
def dq_439 (v : Nat → Int32) : dp_M := dp_setR (dq_438 v) 114 128 (some 209)
theorem dqn_439 (v : Nat → Int32) : dp_n (dq_439 v) = 210 := (dq_nR (dq_438 v) 114 128 (some 209)).trans (dqn_438 v)
def dq_440 (v : Nat → Int32) : dp_M := dp_new (dq_439 v) 41 2 41
theorem dqn_440 (v : Nat → Int32) : dp_n (dq_440 v) = 211 := (dq_nN (dq_439 v) 41 2 41).trans (congrArg (· + 1) (dqn_439 v))
def dq_441 (v : Nat → Int32) : dp_M := dp_setR (dq_440 v) 114 129 (some 210)
theorem dqn_441 (v : Nat → Int32) : dp_n (dq_441 v) = 211 := (dq_nR (dq_440 v) 114 129 (some 210)).trans (dqn_440 v)
def dq_442 (v : Nat → Int32) : dp_M := dp_new (dq_441 v) 41 2 41
theorem dqn_442 (v : Nat → Int32) : dp_n (dq_442 v) = 212 := (dq_nN (dq_441 v) 41 2 41).trans (congrArg (· + 1) (dqn_441 v))
def dq_443 (v : Nat → Int32) : dp_M := dp_setR (dq_442 v) 114 130 (some 211)
theorem dqn_443 (v : Nat → Int32) : dp_n (dq_443 v) = 212 := (dq_nR (dq_442 v) 114 130 (some 211)).trans (dqn_442 v)
def dq_444 (v : Nat → Int32) : dp_M := dp_new (dq_443 v) 41 1 41
theorem dqn_444 (v : Nat → Int32) : dp_n (dq_444 v) = 213 := (dq_nN (dq_443 v) 41 1 41).trans (congrArg (· + 1) (dqn_443 v))
def dq_445 (v : Nat → Int32) : dp_M := dp_setR (dq_444 v) 114 131 (some 212)
theorem dqn_445 (v : Nat → Int32) : dp_n (dq_445 v) = 213 := (dq_nR (dq_444 v) 114 131 (some 212)).trans (dqn_444 v)
def dq_446 (v : Nat → Int32) : dp_M := dp_new (dq_445 v) 40 1 40
theorem dqn_446 (v : Nat → Int32) : dp_n (dq_446 v) = 214 := (dq_nN (dq_445 v) 40 1 40).trans (congrArg (· + 1) (dqn_445 v))
def dq_447 (v : Nat → Int32) : dp_M := dp_setR (dq_446 v) 114 132 (some 213)
theorem dqn_447 (v : Nat → Int32) : dp_n (dq_447 v) = 214 := (dq_nR (dq_446 v) 114 132 (some 213)).trans (dqn_446 v)
def dq_448 (v : Nat → Int32) : dp_M := dp_new (dq_447 v) 402 1 402
theorem dqn_448 (v : Nat → Int32) : dp_n (dq_448 v) = 215 := (dq_nN (dq_447 v) 402 1 402).trans (congrArg (· + 1) (dqn_447 v))
def dq_449 (v : Nat → Int32) : dp_M := dp_setR (dq_448 v) 114 134 (some 214)
theorem dqn_449 (v : Nat → Int32) : dp_n (dq_449 v) = 215 := (dq_nR (dq_448 v) 114 134 (some 214)).trans (dqn_448 v)
def dq_450 (v : Nat → Int32) : dp_M := dp_new (dq_449 v) 402 1 402
theorem dqn_450 (v : Nat → Int32) : dp_n (dq_450 v) = 216 := (dq_nN (dq_449 v) 402 1 402).trans (congrArg (· + 1) (dqn_449 v))
def dq_451 (v : Nat → Int32) : dp_M := dp_setR (dq_450 v) 114 135 (some 215)
theorem dqn_451 (v : Nat → Int32) : dp_n (dq_451 v) = 216 := (dq_nR (dq_450 v) 114 135 (some 215)).trans (dqn_450 v)
def dq_452 (v : Nat → Int32) : dp_M := dp_new (dq_451 v) 402 1 402
theorem dqn_452 (v : Nat → Int32) : dp_n (dq_452 v) = 217 := (dq_nN (dq_451 v) 402 1 402).trans (congrArg (· + 1) (dqn_451 v))
def dq_453 (v : Nat → Int32) : dp_M := dp_setR (dq_452 v) 114 136 (some 216)
theorem dqn_453 (v : Nat → Int32) : dp_n (dq_453 v) = 217 := (dq_nR (dq_452 v) 114 136 (some 216)).trans (dqn_452 v)
def dq_454 (v : Nat → Int32) : dp_M := dp_new (dq_453 v) 1608 1 1608
theorem dqn_454 (v : Nat → Int32) : dp_n (dq_454 v) = 218 := (dq_nN (dq_453 v) 1608 1 1608).trans (congrArg (· + 1) (dqn_453 v))
def dq_455 (v : Nat → Int32) : dp_M := dp_setR (dq_454 v) 114 137 (some 217)
theorem dqn_455 (v : Nat → Int32) : dp_n (dq_455 v) = 218 := (dq_nR (dq_454 v) 114 137 (some 217)).trans (dqn_454 v)
def dq_456 (v : Nat → Int32) : dp_M := dp_new (dq_455 v) 1608 2 1608
theorem dqn_456 (v : Nat → Int32) : dp_n (dq_456 v) = 219 := (dq_nN (dq_455 v) 1608 2 1608).trans (congrArg (· + 1) (dqn_455 v))
def dq_457 (v : Nat → Int32) : dp_M := dp_setR (dq_456 v) 114 138 (some 218)
theorem dqn_457 (v : Nat → Int32) : dp_n (dq_457 v) = 219 := (dq_nR (dq_456 v) 114 138 (some 218)).trans (dqn_456 v)
def dq_458 (v : Nat → Int32) : dp_M := dp_new (dq_457 v) 4 3 4
theorem dqn_458 (v : Nat → Int32) : dp_n (dq_458 v) = 220 := (dq_nN (dq_457 v) 4 3 4).trans (congrArg (· + 1) (dqn_457 v))
def dq_459 (v : Nat → Int32) : dp_M := dp_setR (dq_458 v) 114 139 (some 219)
theorem dqn_459 (v : Nat → Int32) : dp_n (dq_459 v) = 220 := (dq_nR (dq_458 v) 114 139 (some 219)).trans (dqn_458 v)
def dq_460 (v : Nat → Int32) : dp_M := dp_new (dq_459 v) 4 1 4
theorem dqn_460 (v : Nat → Int32) : dp_n (dq_460 v) = 221 := (dq_nN (dq_459 v) 4 1 4).trans (congrArg (· + 1) (dqn_459 v))
def dq_461 (v : Nat → Int32) : dp_M := dp_setR (dq_460 v) 114 140 (some 220)
theorem dqn_461 (v : Nat → Int32) : dp_n (dq_461 v) = 221 := (dq_nR (dq_460 v) 114 140 (some 220)).trans (dqn_460 v)
def dq_462 (v : Nat → Int32) : dp_M := dp_setI (dq_461 v) 114 143 (-1 : Int32)
theorem dqn_462 (v : Nat → Int32) : dp_n (dq_462 v) = 221 := (dq_nI (dq_461 v) 114 143 (-1 : Int32)).trans (dqn_461 v)
def dq_463 (v : Nat → Int32) : dp_M := dp_setI (dq_462 v) 114 144 (-1 : Int32)
theorem dqn_463 (v : Nat → Int32) : dp_n (dq_463 v) = 221 := (dq_nI (dq_462 v) 114 144 (-1 : Int32)).trans (dqn_462 v)
def dq_464 (v : Nat → Int32) : dp_M := dp_setI (dq_463 v) 114 146 (-1 : Int32)
theorem dqn_464 (v : Nat → Int32) : dp_n (dq_464 v) = 221 := (dq_nI (dq_463 v) 114 146 (-1 : Int32)).trans (dqn_463 v)
def dq_465 (v : Nat → Int32) : dp_M := dp_new (dq_464 v) 801 1 801
theorem dqn_465 (v : Nat → Int32) : dp_n (dq_465 v) = 222 := (dq_nN (dq_464 v) 801 1 801).trans (congrArg (· + 1) (dqn_464 v))
def dq_466 (v : Nat → Int32) : dp_M := dp_setR (dq_465 v) 114 148 (some 221)
theorem dqn_466 (v : Nat → Int32) : dp_n (dq_466 v) = 222 := (dq_nR (dq_465 v) 114 148 (some 221)).trans (dqn_465 v)
def dq_467 (v : Nat → Int32) : dp_M := dp_new (dq_466 v) 801 1 801
theorem dqn_467 (v : Nat → Int32) : dp_n (dq_467 v) = 223 := (dq_nN (dq_466 v) 801 1 801).trans (congrArg (· + 1) (dqn_466 v))
def dq_468 (v : Nat → Int32) : dp_M := dp_setR (dq_467 v) 114 149 (some 222)
theorem dqn_468 (v : Nat → Int32) : dp_n (dq_468 v) = 223 := (dq_nR (dq_467 v) 114 149 (some 222)).trans (dqn_467 v)
def dq_469 (v : Nat → Int32) : dp_M := dp_new (dq_468 v) 801 1 801
theorem dqn_469 (v : Nat → Int32) : dp_n (dq_469 v) = 224 := (dq_nN (dq_468 v) 801 1 801).trans (congrArg (· + 1) (dqn_468 v))
def dq_470 (v : Nat → Int32) : dp_M := dp_setR (dq_469 v) 114 150 (some 223)
theorem dqn_470 (v : Nat → Int32) : dp_n (dq_470 v) = 224 := (dq_nR (dq_469 v) 114 150 (some 223)).trans (dqn_469 v)
def dq_471 (v : Nat → Int32) : dp_M := dp_new (dq_470 v) 801 1 801
theorem dqn_471 (v : Nat → Int32) : dp_n (dq_471 v) = 225 := (dq_nN (dq_470 v) 801 1 801).trans (congrArg (· + 1) (dqn_470 v))
def dq_472 (v : Nat → Int32) : dp_M := dp_setR (dq_471 v) 114 151 (some 224)
theorem dqn_472 (v : Nat → Int32) : dp_n (dq_472 v) = 225 := (dq_nR (dq_471 v) 114 151 (some 224)).trans (dqn_471 v)
def dq_473 (v : Nat → Int32) : dp_M := dp_new (dq_472 v) 801 1 801
theorem dqn_473 (v : Nat → Int32) : dp_n (dq_473 v) = 226 := (dq_nN (dq_472 v) 801 1 801).trans (congrArg (· + 1) (dqn_472 v))
def dq_474 (v : Nat → Int32) : dp_M := dp_setR (dq_473 v) 114 152 (some 225)
theorem dqn_474 (v : Nat → Int32) : dp_n (dq_474 v) = 226 := (dq_nR (dq_473 v) 114 152 (some 225)).trans (dqn_473 v)
def dq_475 (v : Nat → Int32) : dp_M := dp_new (dq_474 v) 801 3 801
theorem dqn_475 (v : Nat → Int32) : dp_n (dq_475 v) = 227 := (dq_nN (dq_474 v) 801 3 801).trans (congrArg (· + 1) (dqn_474 v))
def dq_476 (v : Nat → Int32) : dp_M := dp_setR (dq_475 v) 114 153 (some 226)
theorem dqn_476 (v : Nat → Int32) : dp_n (dq_476 v) = 227 := (dq_nR (dq_475 v) 114 153 (some 226)).trans (dqn_475 v)
def dq_477 (v : Nat → Int32) : dp_M := dp_new (dq_476 v) 801 1 801
theorem dqn_477 (v : Nat → Int32) : dp_n (dq_477 v) = 228 := (dq_nN (dq_476 v) 801 1 801).trans (congrArg (· + 1) (dqn_476 v))
def dq_478 (v : Nat → Int32) : dp_M := dp_setR (dq_477 v) 114 154 (some 227)
theorem dqn_478 (v : Nat → Int32) : dp_n (dq_478 v) = 228 := (dq_nR (dq_477 v) 114 154 (some 227)).trans (dqn_477 v)
def dq_479 (v : Nat → Int32) : dp_M := dp_new (dq_478 v) 16020 1 16020
theorem dqn_479 (v : Nat → Int32) : dp_n (dq_479 v) = 229 := (dq_nN (dq_478 v) 16020 1 16020).trans (congrArg (· + 1) (dqn_478 v))
def dq_480 (v : Nat → Int32) : dp_M := dp_setR (dq_479 v) 114 155 (some 228)
theorem dqn_480 (v : Nat → Int32) : dp_n (dq_480 v) = 229 := (dq_nR (dq_479 v) 114 155 (some 228)).trans (dqn_479 v)
def dq_481 (v : Nat → Int32) : dp_M := dp_new (dq_480 v) 16020 2 16020
theorem dqn_481 (v : Nat → Int32) : dp_n (dq_481 v) = 230 := (dq_nN (dq_480 v) 16020 2 16020).trans (congrArg (· + 1) (dqn_480 v))
def dq_482 (v : Nat → Int32) : dp_M := dp_setR (dq_481 v) 114 156 (some 229)
theorem dqn_482 (v : Nat → Int32) : dp_n (dq_482 v) = 230 := (dq_nR (dq_481 v) 114 156 (some 229)).trans (dqn_481 v)
def dq_483 (v : Nat → Int32) : dp_M := dp_new (dq_482 v) 4000 1 4000
theorem dqn_483 (v : Nat → Int32) : dp_n (dq_483 v) = 231 := (dq_nN (dq_482 v) 4000 1 4000).trans (congrArg (· + 1) (dqn_482 v))
def dq_484 (v : Nat → Int32) : dp_M := dp_setR (dq_483 v) 114 157 (some 230)
theorem dqn_484 (v : Nat → Int32) : dp_n (dq_484 v) = 231 := (dq_nR (dq_483 v) 114 157 (some 230)).trans (dqn_483 v)
def dq_485 (v : Nat → Int32) : dp_M := dp_new (dq_484 v) 16 1 16
theorem dqn_485 (v : Nat → Int32) : dp_n (dq_485 v) = 232 := (dq_nN (dq_484 v) 16 1 16).trans (congrArg (· + 1) (dqn_484 v))
def dq_486 (v : Nat → Int32) : dp_M := dp_setR (dq_485 v) 114 158 (some 231)
theorem dqn_486 (v : Nat → Int32) : dp_n (dq_486 v) = 232 := (dq_nR (dq_485 v) 114 158 (some 231)).trans (dqn_485 v)
def dq_487 (v : Nat → Int32) : dp_M := dp_new (dq_486 v) 4 1 4
theorem dqn_487 (v : Nat → Int32) : dp_n (dq_487 v) = 233 := (dq_nN (dq_486 v) 4 1 4).trans (congrArg (· + 1) (dqn_486 v))
def dq_488 (v : Nat → Int32) : dp_M := dp_setR (dq_487 v) 114 159 (some 232)
theorem dqn_488 (v : Nat → Int32) : dp_n (dq_488 v) = 233 := (dq_nR (dq_487 v) 114 159 (some 232)).trans (dqn_487 v)
def dq_489 (v : Nat → Int32) : dp_M := dp_new (dq_488 v) 400 1 400
theorem dqn_489 (v : Nat → Int32) : dp_n (dq_489 v) = 234 := (dq_nN (dq_488 v) 400 1 400).trans (congrArg (· + 1) (dqn_488 v))
def dq_490 (v : Nat → Int32) : dp_M := dp_setR (dq_489 v) 114 161 (some 233)
theorem dqn_490 (v : Nat → Int32) : dp_n (dq_490 v) = 234 := (dq_nR (dq_489 v) 114 161 (some 233)).trans (dqn_489 v)
def dq_491 (v : Nat → Int32) : dp_M := dp_new (dq_490 v) 400 1 400
theorem dqn_491 (v : Nat → Int32) : dp_n (dq_491 v) = 235 := (dq_nN (dq_490 v) 400 1 400).trans (congrArg (· + 1) (dqn_490 v))
def dq_492 (v : Nat → Int32) : dp_M := dp_setR (dq_491 v) 114 162 (some 234)
theorem dqn_492 (v : Nat → Int32) : dp_n (dq_492 v) = 235 := (dq_nR (dq_491 v) 114 162 (some 234)).trans (dqn_491 v)
def dq_493 (v : Nat → Int32) : dp_M := dp_new (dq_492 v) 400 1 400
theorem dqn_493 (v : Nat → Int32) : dp_n (dq_493 v) = 236 := (dq_nN (dq_492 v) 400 1 400).trans (congrArg (· + 1) (dqn_492 v))
def dq_494 (v : Nat → Int32) : dp_M := dp_setR (dq_493 v) 114 163 (some 235)
theorem dqn_494 (v : Nat → Int32) : dp_n (dq_494 v) = 236 := (dq_nR (dq_493 v) 114 163 (some 235)).trans (dqn_493 v)
def dq_495 (v : Nat → Int32) : dp_M := dp_new (dq_494 v) 400 1 400
theorem dqn_495 (v : Nat → Int32) : dp_n (dq_495 v) = 237 := (dq_nN (dq_494 v) 400 1 400).trans (congrArg (· + 1) (dqn_494 v))
def dq_496 (v : Nat → Int32) : dp_M := dp_setR (dq_495 v) 114 164 (some 236)
theorem dqn_496 (v : Nat → Int32) : dp_n (dq_496 v) = 237 := (dq_nR (dq_495 v) 114 164 (some 236)).trans (dqn_495 v)
def dq_497 (v : Nat → Int32) : dp_M := dp_new (dq_496 v) 400 1 400
theorem dqn_497 (v : Nat → Int32) : dp_n (dq_497 v) = 238 := (dq_nN (dq_496 v) 400 1 400).trans (congrArg (· + 1) (dqn_496 v))
def dq_498 (v : Nat → Int32) : dp_M := dp_setR (dq_497 v) 114 165 (some 237)
theorem dqn_498 (v : Nat → Int32) : dp_n (dq_498 v) = 238 := (dq_nR (dq_497 v) 114 165 (some 237)).trans (dqn_497 v)
def dq_499 (v : Nat → Int32) : dp_M := dp_new (dq_498 v) 400 1 400
theorem dqn_499 (v : Nat → Int32) : dp_n (dq_499 v) = 239 := (dq_nN (dq_498 v) 400 1 400).trans (congrArg (· + 1) (dqn_498 v))
def dq_500 (v : Nat → Int32) : dp_M := dp_setR (dq_499 v) 114 166 (some 238)
theorem dqn_500 (v : Nat → Int32) : dp_n (dq_500 v) = 239 := (dq_nR (dq_499 v) 114 166 (some 238)).trans (dqn_499 v)
def dq_501 (v : Nat → Int32) : dp_M := dp_new (dq_500 v) 400 2 400
theorem dqn_501 (v : Nat → Int32) : dp_n (dq_501 v) = 240 := (dq_nN (dq_500 v) 400 2 400).trans (congrArg (· + 1) (dqn_500 v))
def dq_502 (v : Nat → Int32) : dp_M := dp_setR (dq_501 v) 114 167 (some 239)
theorem dqn_502 (v : Nat → Int32) : dp_n (dq_502 v) = 240 := (dq_nR (dq_501 v) 114 167 (some 239)).trans (dqn_501 v)
def dq_503 (v : Nat → Int32) : dp_M := dp_new (dq_502 v) 3200 2 3200
theorem dqn_503 (v : Nat → Int32) : dp_n (dq_503 v) = 241 := (dq_nN (dq_502 v) 3200 2 3200).trans (congrArg (· + 1) (dqn_502 v))
def dq_504 (v : Nat → Int32) : dp_M := dp_setR (dq_503 v) 114 168 (some 240)
theorem dqn_504 (v : Nat → Int32) : dp_n (dq_504 v) = 241 := (dq_nR (dq_503 v) 114 168 (some 240)).trans (dqn_503 v)
def dq_505 (v : Nat → Int32) : dp_M := dp_new (dq_504 v) 400 1 400
theorem dqn_505 (v : Nat → Int32) : dp_n (dq_505 v) = 242 := (dq_nN (dq_504 v) 400 1 400).trans (congrArg (· + 1) (dqn_504 v))
def dq_506 (v : Nat → Int32) : dp_M := dp_setR (dq_505 v) 114 169 (some 241)
theorem dqn_506 (v : Nat → Int32) : dp_n (dq_506 v) = 242 := (dq_nR (dq_505 v) 114 169 (some 241)).trans (dqn_505 v)
def dq_507 (v : Nat → Int32) : dp_M := dp_new (dq_506 v) 400 2 400
theorem dqn_507 (v : Nat → Int32) : dp_n (dq_507 v) = 243 := (dq_nN (dq_506 v) 400 2 400).trans (congrArg (· + 1) (dqn_506 v))
def dq_508 (v : Nat → Int32) : dp_M := dp_setR (dq_507 v) 114 170 (some 242)
theorem dqn_508 (v : Nat → Int32) : dp_n (dq_508 v) = 243 := (dq_nR (dq_507 v) 114 170 (some 242)).trans (dqn_507 v)
def dq_509 (v : Nat → Int32) : dp_M := dp_new (dq_508 v) 400 1 400
theorem dqn_509 (v : Nat → Int32) : dp_n (dq_509 v) = 244 := (dq_nN (dq_508 v) 400 1 400).trans (congrArg (· + 1) (dqn_508 v))
def dq_510 (v : Nat → Int32) : dp_M := dp_setR (dq_509 v) 114 171 (some 243)
theorem dqn_510 (v : Nat → Int32) : dp_n (dq_510 v) = 244 := (dq_nR (dq_509 v) 114 171 (some 243)).trans (dqn_509 v)
def dq_511 (v : Nat → Int32) : dp_M := dp_new (dq_510 v) 400 1 400
theorem dqn_511 (v : Nat → Int32) : dp_n (dq_511 v) = 245 := (dq_nN (dq_510 v) 400 1 400).trans (congrArg (· + 1) (dqn_510 v))
def dq_512 (v : Nat → Int32) : dp_M := dp_setR (dq_511 v) 114 172 (some 244)
theorem dqn_512 (v : Nat → Int32) : dp_n (dq_512 v) = 245 := (dq_nR (dq_511 v) 114 172 (some 244)).trans (dqn_511 v)
def dq_513 (v : Nat → Int32) : dp_M := dp_setI (dq_512 v) 114 1 (dq_g (v 0) (12 : Int32))
theorem dqn_513 (v : Nat → Int32) : dp_n (dq_513 v) = 245 := (dq_nI (dq_512 v) 114 1 (dq_g (v 0) (12 : Int32))).trans (dqn_512 v)
def dq_514 (v : Nat → Int32) : dp_M := dp_setI (dq_513 v) 114 2 (dq_g (v 1) (4 : Int32))
theorem dqn_514 (v : Nat → Int32) : dp_n (dq_514 v) = 245 := (dq_nI (dq_513 v) 114 2 (dq_g (v 1) (4 : Int32))).trans (dqn_513 v)
def dq_515 (v : Nat → Int32) : dp_M := dp_setI (dq_514 v) 114 25 (dq_g (v 2) (20 : Int32))
theorem dqn_515 (v : Nat → Int32) : dp_n (dq_515 v) = 245 := (dq_nI (dq_514 v) 114 25 (dq_g (v 2) (20 : Int32))).trans (dqn_514 v)
def dq_516 (v : Nat → Int32) : dp_M := dp_setI (dq_515 v) 114 26 (dq_g (v 3) (8 : Int32))
theorem dqn_516 (v : Nat → Int32) : dp_n (dq_516 v) = 245 := (dq_nI (dq_515 v) 114 26 (dq_g (v 3) (8 : Int32))).trans (dqn_515 v)
def dq_517 (v : Nat → Int32) : dp_M := dp_setI (dq_516 v) 114 27 (dq_g (v 4) (400 : Int32))
theorem dqn_517 (v : Nat → Int32) : dp_n (dq_517 v) = 245 := (dq_nI (dq_516 v) 114 27 (dq_g (v 4) (400 : Int32))).trans (dqn_516 v)
def dq_518 (v : Nat → Int32) : dp_M := dq_jl (dq_517 v) 240 (-1) 3200
theorem dqn_518 (v : Nat → Int32) : dp_n (dq_518 v) = 245 := (dq_nJ (dq_517 v) 240 (-1) 3200).trans (dqn_517 v)
def dq_519 (v : Nat → Int32) : dp_M := dp_new (dq_518 v) 1 2 1
theorem dqn_519 (v : Nat → Int32) : dp_n (dq_519 v) = 246 := (dq_nN (dq_518 v) 1 2 1).trans (congrArg (· + 1) (dqn_518 v))

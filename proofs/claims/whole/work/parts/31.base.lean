/-! The store at known addresses, and numbers. -/
section Known
variable {α : Type} {σ : SS}
theorem gr_1_0 {f : Nat → M α} : bd (gR 8 1 0) f (lay σ) = f 2 (lay σ) := bd_gR rfl rfl (by decide)
theorem gr_1_1 {f : Nat → M α} : bd (gR 8 1 1) f (lay σ) = f 15 (lay σ) := bd_gR rfl rfl (by decide)
theorem gr_1_2 {f : Nat → M α} : bd (gR 8 1 2) f (lay σ) = f 20 (lay σ) := bd_gR rfl rfl (by decide)
theorem gr_1_3 {f : Nat → M α} : bd (gR 8 1 3) f (lay σ) = f 27 (lay σ) := bd_gR rfl rfl (by decide)
theorem gr_1_4 {f : Nat → M α} : bd (gR 8 1 4) f (lay σ) = f 29 (lay σ) := bd_gR rfl rfl (by decide)
theorem gr_1_5 {f : Nat → M α} : bd (gR 8 1 5) f (lay σ) = f 33 (lay σ) := bd_gR rfl rfl (by decide)
theorem gr_1_6 {f : Nat → M α} : bd (gR 8 1 6) f (lay σ) = f 74 (lay σ) := bd_gR rfl rfl (by decide)
theorem gr_3_0 {f : Nat → M α} : bd (gR 3 3 0) f (lay σ) = f 4 (lay σ) := bd_gR rfl rfl (by decide)
theorem la_4 {f : Int64 → M α} {j : Nat} (h : j < 60) : bd (ldL 4 (nI j)) f (lay σ) = f (σ.2.1 4 j) (lay σ) := bd_ldL rfl h
theorem st_4 {f : Unit → M α} {v : Int64} {j : Nat} (h : j < 60) : bd (stL 4 (nI j) v) f (lay σ) = f () (lay (sL σ 4 (va_up (σ.2.1 4) j v))) := bd_stL rfl h
theorem gr_5_0 {f : Nat → M α} : bd (gR 3 5 0) f (lay σ) = f 6 (lay σ) := bd_gR rfl rfl (by decide)
theorem la_6 {f : Int64 → M α} {j : Nat} (h : j < 60) : bd (ldL 6 (nI j)) f (lay σ) = f (σ.2.1 6 j) (lay σ) := bd_ldL rfl h
theorem st_6 {f : Unit → M α} {v : Int64} {j : Nat} (h : j < 60) : bd (stL 6 (nI j) v) f (lay σ) = f () (lay (sL σ 6 (va_up (σ.2.1 6) j v))) := bd_stL rfl h
theorem gr_7_0 {f : Nat → M α} : bd (gR 3 7 0) f (lay σ) = f 8 (lay σ) := bd_gR rfl rfl (by decide)
theorem la_8 {f : Int64 → M α} {j : Nat} (h : j < 60) : bd (ldL 8 (nI j)) f (lay σ) = f (σ.2.1 8 j) (lay σ) := bd_ldL rfl h
theorem st_8 {f : Unit → M α} {v : Int64} {j : Nat} (h : j < 60) : bd (stL 8 (nI j) v) f (lay σ) = f () (lay (sL σ 8 (va_up (σ.2.1 8) j v))) := bd_stL rfl h
theorem gr_9_0 {f : Nat → M α} : bd (gR 3 9 0) f (lay σ) = f 10 (lay σ) := bd_gR rfl rfl (by decide)
theorem la_10 {f : Int64 → M α} {j : Nat} (h : j < 60) : bd (ldL 10 (nI j)) f (lay σ) = f (σ.2.1 10 j) (lay σ) := bd_ldL rfl h
theorem st_10 {f : Unit → M α} {v : Int64} {j : Nat} (h : j < 60) : bd (stL 10 (nI j) v) f (lay σ) = f () (lay (sL σ 10 (va_up (σ.2.1 10) j v))) := bd_stL rfl h
theorem gr_11_0 {f : Nat → M α} : bd (gR 3 11 0) f (lay σ) = f 12 (lay σ) := bd_gR rfl rfl (by decide)
theorem la_12 {f : Int64 → M α} {j : Nat} (h : j < 60) : bd (ldL 12 (nI j)) f (lay σ) = f (σ.2.1 12 j) (lay σ) := bd_ldL rfl h
theorem st_12 {f : Unit → M α} {v : Int64} {j : Nat} (h : j < 60) : bd (stL 12 (nI j) v) f (lay σ) = f () (lay (sL σ 12 (va_up (σ.2.1 12) j v))) := bd_stL rfl h
theorem gr_13_0 {f : Nat → M α} : bd (gR 3 13 0) f (lay σ) = f 14 (lay σ) := bd_gR rfl rfl (by decide)
theorem la_14 {f : Int64 → M α} {j : Nat} (h : j < 60) : bd (ldL 14 (nI j)) f (lay σ) = f (σ.2.1 14 j) (lay σ) := bd_ldL rfl h
theorem st_14 {f : Unit → M α} {v : Int64} {j : Nat} (h : j < 60) : bd (stL 14 (nI j) v) f (lay σ) = f () (lay (sL σ 14 (va_up (σ.2.1 14) j v))) := bd_stL rfl h
theorem gr_15_0 {f : Nat → M α} : bd (gR 5 15 0) f (lay σ) = f 16 (lay σ) := bd_gR rfl rfl (by decide)
theorem gr_15_1 {f : Nat → M α} : bd (gR 5 15 1) f (lay σ) = f 17 (lay σ) := bd_gR rfl rfl (by decide)
theorem gr_15_2 {f : Nat → M α} : bd (gR 5 15 2) f (lay σ) = f 18 (lay σ) := bd_gR rfl rfl (by decide)
theorem gr_15_3 {f : Nat → M α} : bd (gR 5 15 3) f (lay σ) = f 19 (lay σ) := bd_gR rfl rfl (by decide)
theorem la_16 {f : Int32 → M α} {j : Nat} (h : j < 5) : bd (ldI 16 (nI j)) f (lay σ) = f (σ.1 16 j) (lay σ) := bd_ldI rfl h
theorem st_16 {f : Unit → M α} {v : Int32} {j : Nat} (h : j < 5) : bd (stI 16 (nI j) v) f (lay σ) = f () (lay (sI σ 16 (va_up (σ.1 16) j v))) := bd_stI rfl h
theorem la_17 {f : Int64 → M α} {j : Nat} (h : j < 5) : bd (ldL 17 (nI j)) f (lay σ) = f (σ.2.1 17 j) (lay σ) := bd_ldL rfl h
theorem st_17 {f : Unit → M α} {v : Int64} {j : Nat} (h : j < 5) : bd (stL 17 (nI j) v) f (lay σ) = f () (lay (sL σ 17 (va_up (σ.2.1 17) j v))) := bd_stL rfl h
theorem la_18 {f : Int32 → M α} {j : Nat} (h : j < 5) : bd (ldI 18 (nI j)) f (lay σ) = f (σ.1 18 j) (lay σ) := bd_ldI rfl h
theorem st_18 {f : Unit → M α} {v : Int32} {j : Nat} (h : j < 5) : bd (stI 18 (nI j) v) f (lay σ) = f () (lay (sI σ 18 (va_up (σ.1 18) j v))) := bd_stI rfl h
theorem la_19 {f : Int64 → M α} {j : Nat} (h : j < 16) : bd (ldL 19 (nI j)) f (lay σ) = f (σ.2.1 19 j) (lay σ) := bd_ldL rfl h
theorem st_19 {f : Unit → M α} {v : Int64} {j : Nat} (h : j < 16) : bd (stL 19 (nI j) v) f (lay σ) = f () (lay (sL σ 19 (va_up (σ.2.1 19) j v))) := bd_stL rfl h
theorem gr_20_0 {f : Nat → M α} : bd (gR 1 20 0) f (lay σ) = f 21 (lay σ) := bd_gR rfl rfl (by decide)
theorem gr_20_1 {f : Nat → M α} : bd (gR 1 20 1) f (lay σ) = f 22 (lay σ) := bd_gR rfl rfl (by decide)
theorem la_21 {f : Int64 → M α} {j : Nat} (h : j < 2100) : bd (ldL 21 (nI j)) f (lay σ) = f (σ.2.1 21 j) (lay σ) := bd_ldL rfl h
theorem st_21 {f : Unit → M α} {v : Int64} {j : Nat} (h : j < 2100) : bd (stL 21 (nI j) v) f (lay σ) = f () (lay (sL σ 21 (va_up (σ.2.1 21) j v))) := bd_stL rfl h
theorem la_22 {f : Int64 → M α} {j : Nat} (h : j < 300) : bd (ldL 22 (nI j)) f (lay σ) = f (σ.2.1 22 j) (lay σ) := bd_ldL rfl h
theorem st_22 {f : Unit → M α} {v : Int64} {j : Nat} (h : j < 300) : bd (stL 22 (nI j) v) f (lay σ) = f () (lay (sL σ 22 (va_up (σ.2.1 22) j v))) := bd_stL rfl h
theorem gr_23_0 {f : Nat → M α} : bd (gR 4 23 0) f (lay σ) = f 24 (lay σ) := bd_gR rfl rfl (by decide)
theorem gr_23_1 {f : Nat → M α} : bd (gR 4 23 1) f (lay σ) = f 25 (lay σ) := bd_gR rfl rfl (by decide)
theorem gr_23_2 {f : Nat → M α} : bd (gR 4 23 2) f (lay σ) = f 26 (lay σ) := bd_gR rfl rfl (by decide)
theorem la_24 {f : Int64 → M α} {j : Nat} (h : j < 4400) : bd (ldL 24 (nI j)) f (lay σ) = f (σ.2.1 24 j) (lay σ) := bd_ldL rfl h
theorem st_24 {f : Unit → M α} {v : Int64} {j : Nat} (h : j < 4400) : bd (stL 24 (nI j) v) f (lay σ) = f () (lay (sL σ 24 (va_up (σ.2.1 24) j v))) := bd_stL rfl h
theorem la_25 {f : Int32 → M α} {j : Nat} (h : j < 1024) : bd (ldI 25 (nI j)) f (lay σ) = f (σ.1 25 j) (lay σ) := bd_ldI rfl h
theorem st_25 {f : Unit → M α} {v : Int32} {j : Nat} (h : j < 1024) : bd (stI 25 (nI j) v) f (lay σ) = f () (lay (sI σ 25 (va_up (σ.1 25) j v))) := bd_stI rfl h
theorem la_26 {f : Int64 → M α} {j : Nat} (h : j < 11) : bd (ldL 26 (nI j)) f (lay σ) = f (σ.2.1 26 j) (lay σ) := bd_ldL rfl h
theorem st_26 {f : Unit → M α} {v : Int64} {j : Nat} (h : j < 11) : bd (stL 26 (nI j) v) f (lay σ) = f () (lay (sL σ 26 (va_up (σ.2.1 26) j v))) := bd_stL rfl h
theorem gr_27_0 {f : Nat → M α} : bd (gR 0 27 0) f (lay σ) = f 15 (lay σ) := bd_gR rfl rfl (by decide)
theorem gr_27_1 {f : Nat → M α} : bd (gR 0 27 1) f (lay σ) = f 23 (lay σ) := bd_gR rfl rfl (by decide)
theorem gr_27_2 {f : Nat → M α} : bd (gR 0 27 2) f (lay σ) = f 28 (lay σ) := bd_gR rfl rfl (by decide)
theorem la_28 {f : Int64 → M α} {j : Nat} (h : j < 400) : bd (ldL 28 (nI j)) f (lay σ) = f (σ.2.1 28 j) (lay σ) := bd_ldL rfl h
theorem st_28 {f : Unit → M α} {v : Int64} {j : Nat} (h : j < 400) : bd (stL 28 (nI j) v) f (lay σ) = f () (lay (sL σ 28 (va_up (σ.2.1 28) j v))) := bd_stL rfl h
theorem gr_29_0 {f : Nat → M α} : bd (gR 2 29 0) f (lay σ) = f 15 (lay σ) := bd_gR rfl rfl (by decide)
theorem gr_29_1 {f : Nat → M α} : bd (gR 2 29 1) f (lay σ) = f 23 (lay σ) := bd_gR rfl rfl (by decide)
theorem gr_29_2 {f : Nat → M α} : bd (gR 2 29 2) f (lay σ) = f 30 (lay σ) := bd_gR rfl rfl (by decide)
theorem gr_29_3 {f : Nat → M α} : bd (gR 2 29 3) f (lay σ) = f 31 (lay σ) := bd_gR rfl rfl (by decide)
theorem gr_29_4 {f : Nat → M α} : bd (gR 2 29 4) f (lay σ) = f 32 (lay σ) := bd_gR rfl rfl (by decide)
theorem la_30 {f : Int32 → M α} {j : Nat} (h : j < 500) : bd (ldI 30 (nI j)) f (lay σ) = f (σ.1 30 j) (lay σ) := bd_ldI rfl h
theorem st_30 {f : Unit → M α} {v : Int32} {j : Nat} (h : j < 500) : bd (stI 30 (nI j) v) f (lay σ) = f () (lay (sI σ 30 (va_up (σ.1 30) j v))) := bd_stI rfl h
theorem la_31 {f : Int64 → M α} {j : Nat} (h : j < 500) : bd (ldL 31 (nI j)) f (lay σ) = f (σ.2.1 31 j) (lay σ) := bd_ldL rfl h
theorem st_31 {f : Unit → M α} {v : Int64} {j : Nat} (h : j < 500) : bd (stL 31 (nI j) v) f (lay σ) = f () (lay (sL σ 31 (va_up (σ.2.1 31) j v))) := bd_stL rfl h
theorem la_32 {f : Int64 → M α} {j : Nat} (h : j < 500) : bd (ldL 32 (nI j)) f (lay σ) = f (σ.2.1 32 j) (lay σ) := bd_ldL rfl h
theorem st_32 {f : Unit → M α} {v : Int64} {j : Nat} (h : j < 500) : bd (stL 32 (nI j) v) f (lay σ) = f () (lay (sL σ 32 (va_up (σ.2.1 32) j v))) := bd_stL rfl h
theorem gr_33_0 {f : Nat → M α} : bd (gR 7 33 0) f (lay σ) = f 15 (lay σ) := bd_gR rfl rfl (by decide)
theorem gr_33_1 {f : Nat → M α} : bd (gR 7 33 1) f (lay σ) = f 34 (lay σ) := bd_gR rfl rfl (by decide)
theorem gr_35_0 {f : Nat → M α} : bd (gR 6 35 0) f (lay σ) = f 15 (lay σ) := bd_gR rfl rfl (by decide)
theorem gr_35_1 {f : Nat → M α} : bd (gR 6 35 1) f (lay σ) = f 36 (lay σ) := bd_gR rfl rfl (by decide)
theorem gr_35_2 {f : Nat → M α} : bd (gR 6 35 2) f (lay σ) = f 37 (lay σ) := bd_gR rfl rfl (by decide)
theorem la_36 {f : Int64 → M α} {j : Nat} (h : j < 30) : bd (ldL 36 (nI j)) f (lay σ) = f (σ.2.1 36 j) (lay σ) := bd_ldL rfl h
theorem st_36 {f : Unit → M α} {v : Int64} {j : Nat} (h : j < 30) : bd (stL 36 (nI j) v) f (lay σ) = f () (lay (sL σ 36 (va_up (σ.2.1 36) j v))) := bd_stL rfl h
theorem la_37 {f : Int32 → M α} {j : Nat} (h : j < 15) : bd (ldI 37 (nI j)) f (lay σ) = f (σ.1 37 j) (lay σ) := bd_ldI rfl h
theorem st_37 {f : Unit → M α} {v : Int32} {j : Nat} (h : j < 15) : bd (stI 37 (nI j) v) f (lay σ) = f () (lay (sI σ 37 (va_up (σ.1 37) j v))) := bd_stI rfl h
theorem gr_38_0 {f : Nat → M α} : bd (gR 6 38 0) f (lay σ) = f 15 (lay σ) := bd_gR rfl rfl (by decide)
theorem gr_38_1 {f : Nat → M α} : bd (gR 6 38 1) f (lay σ) = f 39 (lay σ) := bd_gR rfl rfl (by decide)
theorem gr_38_2 {f : Nat → M α} : bd (gR 6 38 2) f (lay σ) = f 40 (lay σ) := bd_gR rfl rfl (by decide)
theorem la_39 {f : Int64 → M α} {j : Nat} (h : j < 30) : bd (ldL 39 (nI j)) f (lay σ) = f (σ.2.1 39 j) (lay σ) := bd_ldL rfl h
theorem st_39 {f : Unit → M α} {v : Int64} {j : Nat} (h : j < 30) : bd (stL 39 (nI j) v) f (lay σ) = f () (lay (sL σ 39 (va_up (σ.2.1 39) j v))) := bd_stL rfl h
theorem la_40 {f : Int32 → M α} {j : Nat} (h : j < 15) : bd (ldI 40 (nI j)) f (lay σ) = f (σ.1 40 j) (lay σ) := bd_ldI rfl h
theorem st_40 {f : Unit → M α} {v : Int32} {j : Nat} (h : j < 15) : bd (stI 40 (nI j) v) f (lay σ) = f () (lay (sI σ 40 (va_up (σ.1 40) j v))) := bd_stI rfl h
theorem gr_41_0 {f : Nat → M α} : bd (gR 6 41 0) f (lay σ) = f 15 (lay σ) := bd_gR rfl rfl (by decide)
theorem gr_41_1 {f : Nat → M α} : bd (gR 6 41 1) f (lay σ) = f 42 (lay σ) := bd_gR rfl rfl (by decide)
theorem gr_41_2 {f : Nat → M α} : bd (gR 6 41 2) f (lay σ) = f 43 (lay σ) := bd_gR rfl rfl (by decide)
theorem la_42 {f : Int64 → M α} {j : Nat} (h : j < 30) : bd (ldL 42 (nI j)) f (lay σ) = f (σ.2.1 42 j) (lay σ) := bd_ldL rfl h
theorem st_42 {f : Unit → M α} {v : Int64} {j : Nat} (h : j < 30) : bd (stL 42 (nI j) v) f (lay σ) = f () (lay (sL σ 42 (va_up (σ.2.1 42) j v))) := bd_stL rfl h
theorem la_43 {f : Int32 → M α} {j : Nat} (h : j < 15) : bd (ldI 43 (nI j)) f (lay σ) = f (σ.1 43 j) (lay σ) := bd_ldI rfl h
theorem st_43 {f : Unit → M α} {v : Int32} {j : Nat} (h : j < 15) : bd (stI 43 (nI j) v) f (lay σ) = f () (lay (sI σ 43 (va_up (σ.1 43) j v))) := bd_stI rfl h
theorem gr_44_0 {f : Nat → M α} : bd (gR 6 44 0) f (lay σ) = f 15 (lay σ) := bd_gR rfl rfl (by decide)
theorem gr_44_1 {f : Nat → M α} : bd (gR 6 44 1) f (lay σ) = f 45 (lay σ) := bd_gR rfl rfl (by decide)
theorem gr_44_2 {f : Nat → M α} : bd (gR 6 44 2) f (lay σ) = f 46 (lay σ) := bd_gR rfl rfl (by decide)
theorem la_45 {f : Int64 → M α} {j : Nat} (h : j < 30) : bd (ldL 45 (nI j)) f (lay σ) = f (σ.2.1 45 j) (lay σ) := bd_ldL rfl h
theorem st_45 {f : Unit → M α} {v : Int64} {j : Nat} (h : j < 30) : bd (stL 45 (nI j) v) f (lay σ) = f () (lay (sL σ 45 (va_up (σ.2.1 45) j v))) := bd_stL rfl h
theorem la_46 {f : Int32 → M α} {j : Nat} (h : j < 15) : bd (ldI 46 (nI j)) f (lay σ) = f (σ.1 46 j) (lay σ) := bd_ldI rfl h
theorem st_46 {f : Unit → M α} {v : Int32} {j : Nat} (h : j < 15) : bd (stI 46 (nI j) v) f (lay σ) = f () (lay (sI σ 46 (va_up (σ.1 46) j v))) := bd_stI rfl h
theorem gr_47_0 {f : Nat → M α} : bd (gR 6 47 0) f (lay σ) = f 15 (lay σ) := bd_gR rfl rfl (by decide)
theorem gr_47_1 {f : Nat → M α} : bd (gR 6 47 1) f (lay σ) = f 48 (lay σ) := bd_gR rfl rfl (by decide)
theorem gr_47_2 {f : Nat → M α} : bd (gR 6 47 2) f (lay σ) = f 49 (lay σ) := bd_gR rfl rfl (by decide)
theorem la_48 {f : Int64 → M α} {j : Nat} (h : j < 30) : bd (ldL 48 (nI j)) f (lay σ) = f (σ.2.1 48 j) (lay σ) := bd_ldL rfl h
theorem st_48 {f : Unit → M α} {v : Int64} {j : Nat} (h : j < 30) : bd (stL 48 (nI j) v) f (lay σ) = f () (lay (sL σ 48 (va_up (σ.2.1 48) j v))) := bd_stL rfl h
theorem la_49 {f : Int32 → M α} {j : Nat} (h : j < 15) : bd (ldI 49 (nI j)) f (lay σ) = f (σ.1 49 j) (lay σ) := bd_ldI rfl h
theorem st_49 {f : Unit → M α} {v : Int32} {j : Nat} (h : j < 15) : bd (stI 49 (nI j) v) f (lay σ) = f () (lay (sI σ 49 (va_up (σ.1 49) j v))) := bd_stI rfl h
theorem gr_50_0 {f : Nat → M α} : bd (gR 6 50 0) f (lay σ) = f 15 (lay σ) := bd_gR rfl rfl (by decide)
theorem gr_50_1 {f : Nat → M α} : bd (gR 6 50 1) f (lay σ) = f 51 (lay σ) := bd_gR rfl rfl (by decide)
theorem gr_50_2 {f : Nat → M α} : bd (gR 6 50 2) f (lay σ) = f 52 (lay σ) := bd_gR rfl rfl (by decide)
theorem la_51 {f : Int64 → M α} {j : Nat} (h : j < 30) : bd (ldL 51 (nI j)) f (lay σ) = f (σ.2.1 51 j) (lay σ) := bd_ldL rfl h
theorem st_51 {f : Unit → M α} {v : Int64} {j : Nat} (h : j < 30) : bd (stL 51 (nI j) v) f (lay σ) = f () (lay (sL σ 51 (va_up (σ.2.1 51) j v))) := bd_stL rfl h
theorem la_52 {f : Int32 → M α} {j : Nat} (h : j < 15) : bd (ldI 52 (nI j)) f (lay σ) = f (σ.1 52 j) (lay σ) := bd_ldI rfl h
theorem st_52 {f : Unit → M α} {v : Int32} {j : Nat} (h : j < 15) : bd (stI 52 (nI j) v) f (lay σ) = f () (lay (sI σ 52 (va_up (σ.1 52) j v))) := bd_stI rfl h
theorem gr_53_0 {f : Nat → M α} : bd (gR 6 53 0) f (lay σ) = f 15 (lay σ) := bd_gR rfl rfl (by decide)
theorem gr_53_1 {f : Nat → M α} : bd (gR 6 53 1) f (lay σ) = f 54 (lay σ) := bd_gR rfl rfl (by decide)
theorem gr_53_2 {f : Nat → M α} : bd (gR 6 53 2) f (lay σ) = f 55 (lay σ) := bd_gR rfl rfl (by decide)
theorem la_54 {f : Int64 → M α} {j : Nat} (h : j < 30) : bd (ldL 54 (nI j)) f (lay σ) = f (σ.2.1 54 j) (lay σ) := bd_ldL rfl h
theorem st_54 {f : Unit → M α} {v : Int64} {j : Nat} (h : j < 30) : bd (stL 54 (nI j) v) f (lay σ) = f () (lay (sL σ 54 (va_up (σ.2.1 54) j v))) := bd_stL rfl h
theorem la_55 {f : Int32 → M α} {j : Nat} (h : j < 15) : bd (ldI 55 (nI j)) f (lay σ) = f (σ.1 55 j) (lay σ) := bd_ldI rfl h
theorem st_55 {f : Unit → M α} {v : Int32} {j : Nat} (h : j < 15) : bd (stI 55 (nI j) v) f (lay σ) = f () (lay (sI σ 55 (va_up (σ.1 55) j v))) := bd_stI rfl h
theorem gr_56_0 {f : Nat → M α} : bd (gR 6 56 0) f (lay σ) = f 15 (lay σ) := bd_gR rfl rfl (by decide)
theorem gr_56_1 {f : Nat → M α} : bd (gR 6 56 1) f (lay σ) = f 57 (lay σ) := bd_gR rfl rfl (by decide)
theorem gr_56_2 {f : Nat → M α} : bd (gR 6 56 2) f (lay σ) = f 58 (lay σ) := bd_gR rfl rfl (by decide)
theorem la_57 {f : Int64 → M α} {j : Nat} (h : j < 30) : bd (ldL 57 (nI j)) f (lay σ) = f (σ.2.1 57 j) (lay σ) := bd_ldL rfl h
theorem st_57 {f : Unit → M α} {v : Int64} {j : Nat} (h : j < 30) : bd (stL 57 (nI j) v) f (lay σ) = f () (lay (sL σ 57 (va_up (σ.2.1 57) j v))) := bd_stL rfl h
theorem la_58 {f : Int32 → M α} {j : Nat} (h : j < 15) : bd (ldI 58 (nI j)) f (lay σ) = f (σ.1 58 j) (lay σ) := bd_ldI rfl h
theorem st_58 {f : Unit → M α} {v : Int32} {j : Nat} (h : j < 15) : bd (stI 58 (nI j) v) f (lay σ) = f () (lay (sI σ 58 (va_up (σ.1 58) j v))) := bd_stI rfl h
theorem gr_59_0 {f : Nat → M α} : bd (gR 6 59 0) f (lay σ) = f 15 (lay σ) := bd_gR rfl rfl (by decide)
theorem gr_59_1 {f : Nat → M α} : bd (gR 6 59 1) f (lay σ) = f 60 (lay σ) := bd_gR rfl rfl (by decide)
theorem gr_59_2 {f : Nat → M α} : bd (gR 6 59 2) f (lay σ) = f 61 (lay σ) := bd_gR rfl rfl (by decide)
theorem la_60 {f : Int64 → M α} {j : Nat} (h : j < 30) : bd (ldL 60 (nI j)) f (lay σ) = f (σ.2.1 60 j) (lay σ) := bd_ldL rfl h
theorem st_60 {f : Unit → M α} {v : Int64} {j : Nat} (h : j < 30) : bd (stL 60 (nI j) v) f (lay σ) = f () (lay (sL σ 60 (va_up (σ.2.1 60) j v))) := bd_stL rfl h
theorem la_61 {f : Int32 → M α} {j : Nat} (h : j < 15) : bd (ldI 61 (nI j)) f (lay σ) = f (σ.1 61 j) (lay σ) := bd_ldI rfl h
theorem st_61 {f : Unit → M α} {v : Int32} {j : Nat} (h : j < 15) : bd (stI 61 (nI j) v) f (lay σ) = f () (lay (sI σ 61 (va_up (σ.1 61) j v))) := bd_stI rfl h
theorem gr_62_0 {f : Nat → M α} : bd (gR 6 62 0) f (lay σ) = f 15 (lay σ) := bd_gR rfl rfl (by decide)
theorem gr_62_1 {f : Nat → M α} : bd (gR 6 62 1) f (lay σ) = f 63 (lay σ) := bd_gR rfl rfl (by decide)
theorem gr_62_2 {f : Nat → M α} : bd (gR 6 62 2) f (lay σ) = f 64 (lay σ) := bd_gR rfl rfl (by decide)
theorem la_63 {f : Int64 → M α} {j : Nat} (h : j < 30) : bd (ldL 63 (nI j)) f (lay σ) = f (σ.2.1 63 j) (lay σ) := bd_ldL rfl h
theorem st_63 {f : Unit → M α} {v : Int64} {j : Nat} (h : j < 30) : bd (stL 63 (nI j) v) f (lay σ) = f () (lay (sL σ 63 (va_up (σ.2.1 63) j v))) := bd_stL rfl h
theorem la_64 {f : Int32 → M α} {j : Nat} (h : j < 15) : bd (ldI 64 (nI j)) f (lay σ) = f (σ.1 64 j) (lay σ) := bd_ldI rfl h
theorem st_64 {f : Unit → M α} {v : Int32} {j : Nat} (h : j < 15) : bd (stI 64 (nI j) v) f (lay σ) = f () (lay (sI σ 64 (va_up (σ.1 64) j v))) := bd_stI rfl h
theorem gr_65_0 {f : Nat → M α} : bd (gR 6 65 0) f (lay σ) = f 15 (lay σ) := bd_gR rfl rfl (by decide)
theorem gr_65_1 {f : Nat → M α} : bd (gR 6 65 1) f (lay σ) = f 66 (lay σ) := bd_gR rfl rfl (by decide)
theorem gr_65_2 {f : Nat → M α} : bd (gR 6 65 2) f (lay σ) = f 67 (lay σ) := bd_gR rfl rfl (by decide)
theorem la_66 {f : Int64 → M α} {j : Nat} (h : j < 30) : bd (ldL 66 (nI j)) f (lay σ) = f (σ.2.1 66 j) (lay σ) := bd_ldL rfl h
theorem st_66 {f : Unit → M α} {v : Int64} {j : Nat} (h : j < 30) : bd (stL 66 (nI j) v) f (lay σ) = f () (lay (sL σ 66 (va_up (σ.2.1 66) j v))) := bd_stL rfl h
theorem la_67 {f : Int32 → M α} {j : Nat} (h : j < 15) : bd (ldI 67 (nI j)) f (lay σ) = f (σ.1 67 j) (lay σ) := bd_ldI rfl h
theorem st_67 {f : Unit → M α} {v : Int32} {j : Nat} (h : j < 15) : bd (stI 67 (nI j) v) f (lay σ) = f () (lay (sI σ 67 (va_up (σ.1 67) j v))) := bd_stI rfl h
theorem gr_68_0 {f : Nat → M α} : bd (gR 6 68 0) f (lay σ) = f 15 (lay σ) := bd_gR rfl rfl (by decide)
theorem gr_68_1 {f : Nat → M α} : bd (gR 6 68 1) f (lay σ) = f 69 (lay σ) := bd_gR rfl rfl (by decide)
theorem gr_68_2 {f : Nat → M α} : bd (gR 6 68 2) f (lay σ) = f 70 (lay σ) := bd_gR rfl rfl (by decide)
theorem la_69 {f : Int64 → M α} {j : Nat} (h : j < 30) : bd (ldL 69 (nI j)) f (lay σ) = f (σ.2.1 69 j) (lay σ) := bd_ldL rfl h
theorem st_69 {f : Unit → M α} {v : Int64} {j : Nat} (h : j < 30) : bd (stL 69 (nI j) v) f (lay σ) = f () (lay (sL σ 69 (va_up (σ.2.1 69) j v))) := bd_stL rfl h
theorem la_70 {f : Int32 → M α} {j : Nat} (h : j < 15) : bd (ldI 70 (nI j)) f (lay σ) = f (σ.1 70 j) (lay σ) := bd_ldI rfl h
theorem st_70 {f : Unit → M α} {v : Int32} {j : Nat} (h : j < 15) : bd (stI 70 (nI j) v) f (lay σ) = f () (lay (sI σ 70 (va_up (σ.1 70) j v))) := bd_stI rfl h
theorem gr_71_0 {f : Nat → M α} : bd (gR 6 71 0) f (lay σ) = f 15 (lay σ) := bd_gR rfl rfl (by decide)
theorem gr_71_1 {f : Nat → M α} : bd (gR 6 71 1) f (lay σ) = f 72 (lay σ) := bd_gR rfl rfl (by decide)
theorem gr_71_2 {f : Nat → M α} : bd (gR 6 71 2) f (lay σ) = f 73 (lay σ) := bd_gR rfl rfl (by decide)
theorem la_72 {f : Int64 → M α} {j : Nat} (h : j < 30) : bd (ldL 72 (nI j)) f (lay σ) = f (σ.2.1 72 j) (lay σ) := bd_ldL rfl h
theorem st_72 {f : Unit → M α} {v : Int64} {j : Nat} (h : j < 30) : bd (stL 72 (nI j) v) f (lay σ) = f () (lay (sL σ 72 (va_up (σ.2.1 72) j v))) := bd_stL rfl h
theorem la_73 {f : Int32 → M α} {j : Nat} (h : j < 15) : bd (ldI 73 (nI j)) f (lay σ) = f (σ.1 73 j) (lay σ) := bd_ldI rfl h
theorem st_73 {f : Unit → M α} {v : Int32} {j : Nat} (h : j < 15) : bd (stI 73 (nI j) v) f (lay σ) = f () (lay (sI σ 73 (va_up (σ.1 73) j v))) := bd_stI rfl h
theorem la_74 {f : Int32 → M α} {j : Nat} (h : j < 8) : bd (ldI 74 (nI j)) f (lay σ) = f (σ.1 74 j) (lay σ) := bd_ldI rfl h
theorem st_74 {f : Unit → M α} {v : Int32} {j : Nat} (h : j < 8) : bd (stI 74 (nI j) v) f (lay σ) = f () (lay (sI σ 74 (va_up (σ.1 74) j v))) := bd_stI rfl h
theorem gr_75_0 {f : Nat → M α} : bd (gR 6 75 0) f (lay σ) = f 15 (lay σ) := bd_gR rfl rfl (by decide)
theorem gr_75_1 {f : Nat → M α} : bd (gR 6 75 1) f (lay σ) = f 76 (lay σ) := bd_gR rfl rfl (by decide)
theorem gr_75_2 {f : Nat → M α} : bd (gR 6 75 2) f (lay σ) = f 77 (lay σ) := bd_gR rfl rfl (by decide)
theorem la_76 {f : Int64 → M α} {j : Nat} (h : j < 30) : bd (ldL 76 (nI j)) f (lay σ) = f (σ.2.1 76 j) (lay σ) := bd_ldL rfl h
theorem st_76 {f : Unit → M α} {v : Int64} {j : Nat} (h : j < 30) : bd (stL 76 (nI j) v) f (lay σ) = f () (lay (sL σ 76 (va_up (σ.2.1 76) j v))) := bd_stL rfl h
theorem la_77 {f : Int32 → M α} {j : Nat} (h : j < 15) : bd (ldI 77 (nI j)) f (lay σ) = f (σ.1 77 j) (lay σ) := bd_ldI rfl h
theorem st_77 {f : Unit → M α} {v : Int32} {j : Nat} (h : j < 15) : bd (stI 77 (nI j) v) f (lay σ) = f () (lay (sI σ 77 (va_up (σ.1 77) j v))) := bd_stI rfl h
theorem gr_78_0 {f : Nat → M α} : bd (gR 6 78 0) f (lay σ) = f 15 (lay σ) := bd_gR rfl rfl (by decide)
theorem gr_78_1 {f : Nat → M α} : bd (gR 6 78 1) f (lay σ) = f 79 (lay σ) := bd_gR rfl rfl (by decide)
theorem gr_78_2 {f : Nat → M α} : bd (gR 6 78 2) f (lay σ) = f 80 (lay σ) := bd_gR rfl rfl (by decide)
theorem la_79 {f : Int64 → M α} {j : Nat} (h : j < 30) : bd (ldL 79 (nI j)) f (lay σ) = f (σ.2.1 79 j) (lay σ) := bd_ldL rfl h
theorem st_79 {f : Unit → M α} {v : Int64} {j : Nat} (h : j < 30) : bd (stL 79 (nI j) v) f (lay σ) = f () (lay (sL σ 79 (va_up (σ.2.1 79) j v))) := bd_stL rfl h
theorem la_80 {f : Int32 → M α} {j : Nat} (h : j < 15) : bd (ldI 80 (nI j)) f (lay σ) = f (σ.1 80 j) (lay σ) := bd_ldI rfl h
theorem st_80 {f : Unit → M α} {v : Int32} {j : Nat} (h : j < 15) : bd (stI 80 (nI j) v) f (lay σ) = f () (lay (sI σ 80 (va_up (σ.1 80) j v))) := bd_stI rfl h
theorem gr_81_0 {f : Nat → M α} : bd (gR 9 81 0) f (lay σ) = f 82 (lay σ) := bd_gR rfl rfl (by decide)
theorem gr_81_1 {f : Nat → M α} : bd (gR 9 81 1) f (lay σ) = f 83 (lay σ) := bd_gR rfl rfl (by decide)
theorem gr_81_2 {f : Nat → M α} : bd (gR 9 81 2) f (lay σ) = f 84 (lay σ) := bd_gR rfl rfl (by decide)
theorem gr_81_3 {f : Nat → M α} : bd (gR 9 81 3) f (lay σ) = f 85 (lay σ) := bd_gR rfl rfl (by decide)
theorem gr_81_4 {f : Nat → M α} : bd (gR 9 81 4) f (lay σ) = f 86 (lay σ) := bd_gR rfl rfl (by decide)
theorem gr_81_7 {f : Nat → M α} : bd (gR 9 81 7) f (lay σ) = f 87 (lay σ) := bd_gR rfl rfl (by decide)
theorem gr_81_8 {f : Nat → M α} : bd (gR 9 81 8) f (lay σ) = f 88 (lay σ) := bd_gR rfl rfl (by decide)
theorem gr_81_9 {f : Nat → M α} : bd (gR 9 81 9) f (lay σ) = f 89 (lay σ) := bd_gR rfl rfl (by decide)
theorem gr_81_11 {f : Nat → M α} : bd (gR 9 81 11) f (lay σ) = f 90 (lay σ) := bd_gR rfl rfl (by decide)
theorem gr_81_14 {f : Nat → M α} : bd (gR 9 81 14) f (lay σ) = f 91 (lay σ) := bd_gR rfl rfl (by decide)
theorem gr_81_17 {f : Nat → M α} : bd (gR 9 81 17) f (lay σ) = f 92 (lay σ) := bd_gR rfl rfl (by decide)
theorem gr_81_18 {f : Nat → M α} : bd (gR 9 81 18) f (lay σ) = f 93 (lay σ) := bd_gR rfl rfl (by decide)
theorem gr_81_20 {f : Nat → M α} : bd (gR 9 81 20) f (lay σ) = f 94 (lay σ) := bd_gR rfl rfl (by decide)
theorem gr_81_21 {f : Nat → M α} : bd (gR 9 81 21) f (lay σ) = f 95 (lay σ) := bd_gR rfl rfl (by decide)
theorem gr_81_25 {f : Nat → M α} : bd (gR 9 81 25) f (lay σ) = f 96 (lay σ) := bd_gR rfl rfl (by decide)
theorem gr_81_26 {f : Nat → M α} : bd (gR 9 81 26) f (lay σ) = f 97 (lay σ) := bd_gR rfl rfl (by decide)
theorem gr_81_27 {f : Nat → M α} : bd (gR 9 81 27) f (lay σ) = f 98 (lay σ) := bd_gR rfl rfl (by decide)
theorem gr_81_28 {f : Nat → M α} : bd (gR 9 81 28) f (lay σ) = f 99 (lay σ) := bd_gR rfl rfl (by decide)
theorem gr_81_29 {f : Nat → M α} : bd (gR 9 81 29) f (lay σ) = f 100 (lay σ) := bd_gR rfl rfl (by decide)
theorem gr_81_31 {f : Nat → M α} : bd (gR 9 81 31) f (lay σ) = f 101 (lay σ) := bd_gR rfl rfl (by decide)
theorem gr_81_32 {f : Nat → M α} : bd (gR 9 81 32) f (lay σ) = f 102 (lay σ) := bd_gR rfl rfl (by decide)
theorem gr_81_33 {f : Nat → M α} : bd (gR 9 81 33) f (lay σ) = f 103 (lay σ) := bd_gR rfl rfl (by decide)
theorem gr_81_34 {f : Nat → M α} : bd (gR 9 81 34) f (lay σ) = f 104 (lay σ) := bd_gR rfl rfl (by decide)
theorem gr_81_36 {f : Nat → M α} : bd (gR 9 81 36) f (lay σ) = f 105 (lay σ) := bd_gR rfl rfl (by decide)
theorem gr_81_39 {f : Nat → M α} : bd (gR 9 81 39) f (lay σ) = f 106 (lay σ) := bd_gR rfl rfl (by decide)
theorem la_82 {f : Int32 → M α} {j : Nat} (h : j < 6) : bd (ldZ 82 (nI j)) f (lay σ) = f (σ.1 82 j) (lay σ) := bd_ldZ rfl h
theorem st_82 {f : Unit → M α} {v : Int32} {j : Nat} (hv : v = 0 ∨ v = 1) (h : j < 6) : bd (stZ 82 (nI j) v) f (lay σ) = f () (lay (sI σ 82 (va_up (σ.1 82) j v))) := bd_stZ hv rfl h
theorem la_83 {f : Int32 → M α} {j : Nat} (h : j < 6) : bd (ldI 83 (nI j)) f (lay σ) = f (σ.1 83 j) (lay σ) := bd_ldI rfl h
theorem st_83 {f : Unit → M α} {v : Int32} {j : Nat} (h : j < 6) : bd (stI 83 (nI j) v) f (lay σ) = f () (lay (sI σ 83 (va_up (σ.1 83) j v))) := bd_stI rfl h
theorem la_84 {f : Int32 → M α} {j : Nat} (h : j < 6) : bd (ldI 84 (nI j)) f (lay σ) = f (σ.1 84 j) (lay σ) := bd_ldI rfl h
theorem st_84 {f : Unit → M α} {v : Int32} {j : Nat} (h : j < 6) : bd (stI 84 (nI j) v) f (lay σ) = f () (lay (sI σ 84 (va_up (σ.1 84) j v))) := bd_stI rfl h
theorem la_85 {f : Int64 → M α} {j : Nat} (h : j < 360) : bd (ldL 85 (nI j)) f (lay σ) = f (σ.2.1 85 j) (lay σ) := bd_ldL rfl h
theorem st_85 {f : Unit → M α} {v : Int64} {j : Nat} (h : j < 360) : bd (stL 85 (nI j) v) f (lay σ) = f () (lay (sL σ 85 (va_up (σ.2.1 85) j v))) := bd_stL rfl h
theorem la_86 {f : Int64 → M α} {j : Nat} (h : j < 60) : bd (ldL 86 (nI j)) f (lay σ) = f (σ.2.1 86 j) (lay σ) := bd_ldL rfl h
theorem st_86 {f : Unit → M α} {v : Int64} {j : Nat} (h : j < 60) : bd (stL 86 (nI j) v) f (lay σ) = f () (lay (sL σ 86 (va_up (σ.2.1 86) j v))) := bd_stL rfl h
theorem la_87 {f : Int32 → M α} {j : Nat} (h : j < 5) : bd (ldI 87 (nI j)) f (lay σ) = f (σ.1 87 j) (lay σ) := bd_ldI rfl h
theorem st_87 {f : Unit → M α} {v : Int32} {j : Nat} (h : j < 5) : bd (stI 87 (nI j) v) f (lay σ) = f () (lay (sI σ 87 (va_up (σ.1 87) j v))) := bd_stI rfl h
theorem la_88 {f : Int64 → M α} {j : Nat} (h : j < 5) : bd (ldL 88 (nI j)) f (lay σ) = f (σ.2.1 88 j) (lay σ) := bd_ldL rfl h
theorem st_88 {f : Unit → M α} {v : Int64} {j : Nat} (h : j < 5) : bd (stL 88 (nI j) v) f (lay σ) = f () (lay (sL σ 88 (va_up (σ.2.1 88) j v))) := bd_stL rfl h
theorem la_89 {f : Int32 → M α} {j : Nat} (h : j < 5) : bd (ldI 89 (nI j)) f (lay σ) = f (σ.1 89 j) (lay σ) := bd_ldI rfl h
theorem st_89 {f : Unit → M α} {v : Int32} {j : Nat} (h : j < 5) : bd (stI 89 (nI j) v) f (lay σ) = f () (lay (sI σ 89 (va_up (σ.1 89) j v))) := bd_stI rfl h
theorem la_90 {f : Int64 → M α} {j : Nat} (h : j < 16) : bd (ldL 90 (nI j)) f (lay σ) = f (σ.2.1 90 j) (lay σ) := bd_ldL rfl h
theorem st_90 {f : Unit → M α} {v : Int64} {j : Nat} (h : j < 16) : bd (stL 90 (nI j) v) f (lay σ) = f () (lay (sL σ 90 (va_up (σ.2.1 90) j v))) := bd_stL rfl h
theorem la_91 {f : Int64 → M α} {j : Nat} (h : j < 30) : bd (ldL 91 (nI j)) f (lay σ) = f (σ.2.1 91 j) (lay σ) := bd_ldL rfl h
theorem st_91 {f : Unit → M α} {v : Int64} {j : Nat} (h : j < 30) : bd (stL 91 (nI j) v) f (lay σ) = f () (lay (sL σ 91 (va_up (σ.2.1 91) j v))) := bd_stL rfl h
theorem la_92 {f : Int64 → M α} {j : Nat} (h : j < 300) : bd (ldL 92 (nI j)) f (lay σ) = f (σ.2.1 92 j) (lay σ) := bd_ldL rfl h
theorem st_92 {f : Unit → M α} {v : Int64} {j : Nat} (h : j < 300) : bd (stL 92 (nI j) v) f (lay σ) = f () (lay (sL σ 92 (va_up (σ.2.1 92) j v))) := bd_stL rfl h
theorem la_93 {f : Int64 → M α} {j : Nat} (h : j < 2100) : bd (ldL 93 (nI j)) f (lay σ) = f (σ.2.1 93 j) (lay σ) := bd_ldL rfl h
theorem st_93 {f : Unit → M α} {v : Int64} {j : Nat} (h : j < 2100) : bd (stL 93 (nI j) v) f (lay σ) = f () (lay (sL σ 93 (va_up (σ.2.1 93) j v))) := bd_stL rfl h
theorem la_94 {f : Int32 → M α} {j : Nat} (h : j < 40) : bd (ldI 94 (nI j)) f (lay σ) = f (σ.1 94 j) (lay σ) := bd_ldI rfl h
theorem st_94 {f : Unit → M α} {v : Int32} {j : Nat} (h : j < 40) : bd (stI 94 (nI j) v) f (lay σ) = f () (lay (sI σ 94 (va_up (σ.1 94) j v))) := bd_stI rfl h
theorem la_95 {f : Int64 → M α} {j : Nat} (h : j < 30) : bd (ldL 95 (nI j)) f (lay σ) = f (σ.2.1 95 j) (lay σ) := bd_ldL rfl h
theorem st_95 {f : Unit → M α} {v : Int64} {j : Nat} (h : j < 30) : bd (stL 95 (nI j) v) f (lay σ) = f () (lay (sL σ 95 (va_up (σ.2.1 95) j v))) := bd_stL rfl h
theorem la_96 {f : Int32 → M α} {j : Nat} (h : j < 40) : bd (ldI 96 (nI j)) f (lay σ) = f (σ.1 96 j) (lay σ) := bd_ldI rfl h
theorem st_96 {f : Unit → M α} {v : Int32} {j : Nat} (h : j < 40) : bd (stI 96 (nI j) v) f (lay σ) = f () (lay (sI σ 96 (va_up (σ.1 96) j v))) := bd_stI rfl h
theorem la_97 {f : Int32 → M α} {j : Nat} (h : j < 8) : bd (ldI 97 (nI j)) f (lay σ) = f (σ.1 97 j) (lay σ) := bd_ldI rfl h
theorem st_97 {f : Unit → M α} {v : Int32} {j : Nat} (h : j < 8) : bd (stI 97 (nI j) v) f (lay σ) = f () (lay (sI σ 97 (va_up (σ.1 97) j v))) := bd_stI rfl h
theorem la_98 {f : Int64 → M α} {j : Nat} (h : j < 5) : bd (ldL 98 (nI j)) f (lay σ) = f (σ.2.1 98 j) (lay σ) := bd_ldL rfl h
theorem st_98 {f : Unit → M α} {v : Int64} {j : Nat} (h : j < 5) : bd (stL 98 (nI j) v) f (lay σ) = f () (lay (sL σ 98 (va_up (σ.2.1 98) j v))) := bd_stL rfl h
theorem la_99 {f : Int64 → M α} {j : Nat} (h : j < 4812) : bd (ldL 99 (nI j)) f (lay σ) = f (σ.2.1 99 j) (lay σ) := bd_ldL rfl h
theorem st_99 {f : Unit → M α} {v : Int64} {j : Nat} (h : j < 4812) : bd (stL 99 (nI j) v) f (lay σ) = f () (lay (sL σ 99 (va_up (σ.2.1 99) j v))) := bd_stL rfl h
theorem la_100 {f : Int64 → M α} {j : Nat} (h : j < 3) : bd (ldL 100 (nI j)) f (lay σ) = f (σ.2.1 100 j) (lay σ) := bd_ldL rfl h
theorem st_100 {f : Unit → M α} {v : Int64} {j : Nat} (h : j < 3) : bd (stL 100 (nI j) v) f (lay σ) = f () (lay (sL σ 100 (va_up (σ.2.1 100) j v))) := bd_stL rfl h
theorem la_101 {f : Int64 → M α} {j : Nat} (h : j < 500) : bd (ldL 101 (nI j)) f (lay σ) = f (σ.2.1 101 j) (lay σ) := bd_ldL rfl h
theorem st_101 {f : Unit → M α} {v : Int64} {j : Nat} (h : j < 500) : bd (stL 101 (nI j) v) f (lay σ) = f () (lay (sL σ 101 (va_up (σ.2.1 101) j v))) := bd_stL rfl h
theorem la_102 {f : Int64 → M α} {j : Nat} (h : j < 500) : bd (ldL 102 (nI j)) f (lay σ) = f (σ.2.1 102 j) (lay σ) := bd_ldL rfl h
theorem st_102 {f : Unit → M α} {v : Int64} {j : Nat} (h : j < 500) : bd (stL 102 (nI j) v) f (lay σ) = f () (lay (sL σ 102 (va_up (σ.2.1 102) j v))) := bd_stL rfl h
theorem la_103 {f : Int32 → M α} {j : Nat} (h : j < 500) : bd (ldI 103 (nI j)) f (lay σ) = f (σ.1 103 j) (lay σ) := bd_ldI rfl h
theorem st_103 {f : Unit → M α} {v : Int32} {j : Nat} (h : j < 500) : bd (stI 103 (nI j) v) f (lay σ) = f () (lay (sI σ 103 (va_up (σ.1 103) j v))) := bd_stI rfl h
theorem la_104 {f : Int64 → M α} {j : Nat} (h : j < 500) : bd (ldL 104 (nI j)) f (lay σ) = f (σ.2.1 104 j) (lay σ) := bd_ldL rfl h
theorem st_104 {f : Unit → M α} {v : Int64} {j : Nat} (h : j < 500) : bd (stL 104 (nI j) v) f (lay σ) = f () (lay (sL σ 104 (va_up (σ.2.1 104) j v))) := bd_stL rfl h
theorem la_105 {f : Int64 → M α} {j : Nat} (h : j < 501) : bd (ldL 105 (nI j)) f (lay σ) = f (σ.2.1 105 j) (lay σ) := bd_ldL rfl h
theorem st_105 {f : Unit → M α} {v : Int64} {j : Nat} (h : j < 501) : bd (stL 105 (nI j) v) f (lay σ) = f () (lay (sL σ 105 (va_up (σ.2.1 105) j v))) := bd_stL rfl h
theorem la_106 {f : Int64 → M α} {j : Nat} (h : j < 12) : bd (ldL 106 (nI j)) f (lay σ) = f (σ.2.1 106 j) (lay σ) := bd_ldL rfl h
theorem st_106 {f : Unit → M α} {v : Int64} {j : Nat} (h : j < 12) : bd (stL 106 (nI j) v) f (lay σ) = f () (lay (sL σ 106 (va_up (σ.2.1 106) j v))) := bd_stL rfl h
theorem gr_now {f : Nat → M α} : bd (gR 8 1 7) f (lay σ) = f σ.2.2.1 (lay σ) := bd_gR rfl rfl (by decide)
theorem gr_next {f : Nat → M α} : bd (gR 8 1 8) f (lay σ) = f σ.2.2.2 (lay σ) := bd_gR rfl rfl (by decide)
end Known
theorem sI_same {σ : SS} {o : Nat} {f : Nat → Int32} : (sI σ o f).1 o = f := by simp [sI, va_up]
theorem sI_ne {σ : SS} {o q : Nat} {f : Nat → Int32} (h : q ≠ o) : (sI σ o f).1 q = σ.1 q := by simp [sI, va_up, h]
theorem sL_same {σ : SS} {o : Nat} {f : Nat → Int64} : (sL σ o f).2.1 o = f := by simp [sL, va_up]
theorem sL_ne {σ : SS} {o q : Nat} {f : Nat → Int64} (h : q ≠ o) : (sL σ o f).2.1 q = σ.2.1 q := by simp [sL, va_up, h]
theorem sI_2 {σ : SS} {o : Nat} {f : Nat → Int32} : (sI σ o f).2 = σ.2 := rfl
theorem sL_1 {σ : SS} {o : Nat} {f : Nat → Int64} : (sL σ o f).1 = σ.1 := rfl
theorem sL_22 {σ : SS} {o : Nat} {f : Nat → Int64} : (sL σ o f).2.2 = σ.2.2 := rfl
theorem up_same {β : Type} {f : Nat → β} {k : Nat} {v : β} : va_up f k v k = v := by simp [va_up]
theorem up_ne {β : Type} {f : Nat → β} {k j : Nat} {v : β} (h : j ≠ k) : va_up f k v j = f j := by simp [va_up, h]
/-- only rows of L have changed -/
def Mod (L : List Nat) (σ τ : SS) : Prop := (∀ o, o ∉ L → τ.1 o = σ.1 o ∧ τ.2.1 o = σ.2.1 o) ∧ τ.2.2 = σ.2.2
theorem Mod.rf {L : List Nat} {σ : SS} : Mod L σ σ := ⟨fun _ _ => ⟨rfl, rfl⟩, rfl⟩
theorem Mod.tr {L : List Nat} {σ τ υ : SS} (h : Mod L σ τ) (g : Mod L τ υ) : Mod L σ υ := ⟨fun o ho => ⟨((g.1 o ho).1).trans (h.1 o ho).1, ((g.1 o ho).2).trans (h.1 o ho).2⟩, g.2.trans h.2⟩
theorem Mod.mono {L K : List Nat} {σ τ : SS} (h : Mod L σ τ) (hs : ∀ o ∈ L, o ∈ K) : Mod K σ τ := ⟨fun o ho => h.1 o (fun q => ho (hs o q)), h.2⟩
theorem Mod.I {L : List Nat} {σ : SS} {o : Nat} {f : Nat → Int32} (h : o ∈ L) : Mod L σ (sI σ o f) := ⟨fun q hq => ⟨sI_ne (fun e => hq (e ▸ h)), rfl⟩, rfl⟩
theorem Mod.L {L : List Nat} {σ : SS} {o : Nat} {f : Nat → Int64} (h : o ∈ L) : Mod L σ (sL σ o f) := ⟨fun q hq => ⟨rfl, sL_ne (fun e => hq (e ▸ h))⟩, rfl⟩
theorem Mod.i {L : List Nat} {σ τ : SS} {o : Nat} (h : Mod L σ τ) (ho : o ∉ L) : τ.1 o = σ.1 o := (h.1 o ho).1
theorem Mod.l {L : List Nat} {σ τ : SS} {o : Nat} (h : Mod L σ τ) (ho : o ∉ L) : τ.2.1 o = σ.2.1 o := (h.1 o ho).2
theorem lit_nI (c : Nat) : (OfNat.ofNat c : Int32) = nI c := rfl
theorem lit_lN (c : Nat) : (OfNat.ofNat c : Int64) = lN c := rfl
theorem nI_alit (a c : Nat) : nI a + (OfNat.ofNat c : Int32) = nI (a + (OfNat.ofNat c : Nat)) := nI_add a c
theorem nI_lita (a c : Nat) : (OfNat.ofNat c : Int32) + nI a = nI ((OfNat.ofNat c : Nat) + a) := nI_add c a
theorem nI_mlit (a c : Nat) : nI a * (OfNat.ofNat c : Int32) = nI (a * (OfNat.ofNat c : Nat)) := pk_mul a c
theorem nI_litm (a c : Nat) : (OfNat.ofNat c : Int32) * nI a = nI ((OfNat.ofNat c : Nat) * a) := pk_mul c a
theorem nI_slit (a c : Nat) (h : (OfNat.ofNat c : Nat) ≤ a) : nI a - (OfNat.ofNat c : Int32) = nI (a - (OfNat.ofNat c : Nat)) := pk_sub h
theorem le_litn {c j : Nat} (hc : (OfNat.ofNat c : Nat) < 2 ^ 31) (hj : j < 2 ^ 31) : ((OfNat.ofNat c : Int32) ≤ nI j) ↔ (OfNat.ofNat c : Nat) ≤ j := nI_leI hc hj
theorem le_nlit {c j : Nat} (hj : j < 2 ^ 31) (hc : (OfNat.ofNat c : Nat) < 2 ^ 31) : (nI j ≤ (OfNat.ofNat c : Int32)) ↔ j ≤ (OfNat.ofNat c : Nat) := nI_leI hj hc
theorem lt_litn {c j : Nat} (hc : (OfNat.ofNat c : Nat) < 2 ^ 31) (hj : j < 2 ^ 31) : ((OfNat.ofNat c : Int32) < nI j) ↔ (OfNat.ofNat c : Nat) < j := nI_ltI hc hj
theorem lt_nlit {c j : Nat} (hj : j < 2 ^ 31) (hc : (OfNat.ofNat c : Nat) < 2 ^ 31) : (nI j < (OfNat.ofNat c : Int32)) ↔ j < (OfNat.ofNat c : Nat) := nI_ltI hj hc
theorem eq_nlit {c j : Nat} (hj : j < 2 ^ 31) (hc : (OfNat.ofNat c : Nat) < 2 ^ 31) : (nI j = (OfNat.ofNat c : Int32)) ↔ j = (OfNat.ofNat c : Nat) := nI_eq hj hc
theorem le_nn {a b : Nat} (ha : a < 2 ^ 31) (hb : b < 2 ^ 31) : (nI a ≤ nI b) ↔ a ≤ b := nI_leI ha hb
theorem lt_nn {a b : Nat} (ha : a < 2 ^ 31) (hb : b < 2 ^ 31) : (nI a < nI b) ↔ a < b := nI_ltI ha hb
theorem eq_nn {a b : Nat} (ha : a < 2 ^ 31) (hb : b < 2 ^ 31) : (nI a = nI b) ↔ a = b := nI_eq ha hb
/-- a truth as the machine has it -/
def bi (p : Prop) [Decidable p] : Int32 := if p then 1 else 0
theorem bi_0 {p : Prop} [Decidable p] : (bi p = 0) ↔ ¬ p := by unfold bi; split <;> simp_all
theorem bi_01 {p : Prop} [Decidable p] : bi p = 0 ∨ bi p = 1 := by unfold bi; split <;> simp_all
theorem rz_bi {p : Prop} [Decidable p] {h : AH} : rz (bi p) h = some (bi p, h) := by unfold rz; rw [if_pos bi_01]
theorem nI_ex {x : Int32} {n : Nat} (hn : n < 2 ^ 31) (h0 : 0 ≤ x) (h : x < nI n) : ∃ j, j < n ∧ x = nI j := by
  obtain ⟨j, hj, rfl⟩ := nI_of (x := x) (by rw [Int32.not_lt]; exact h0)
  exact ⟨j, (lt_nn hj hn).mp h, rfl⟩
theorem fuel (n : Nat) (h : n < 100000) : ∃ k, FU = n + (k + 1) := ⟨100000 - n - 1, by unfold FU; omega⟩

theorem na_0 (a : Nat) : nI a + 0 = nI (a + 0) := nI_add a 0
theorem an_0 (a : Nat) : 0 + nI a = nI (0 + a) := nI_add 0 a
theorem nm_0 (a : Nat) : nI a * 0 = nI (a * 0) := pk_mul a 0
theorem mn_0 (a : Nat) : 0 * nI a = nI (0 * a) := pk_mul 0 a
theorem ns_0 (a : Nat) (h : 0 ≤ a) : nI a - 0 = nI (a - 0) := pk_sub (b := 0) h
theorem ln_0 {a : Nat} (h : a < 2 ^ 31) : (0 ≤ nI a) ↔ 0 ≤ a := nI_leI (a := 0) (by decide) h
theorem nl_0 {a : Nat} (h : a < 2 ^ 31) : (nI a ≤ 0) ↔ a ≤ 0 := nI_leI (b := 0) h (by decide)
theorem tn_0 {a : Nat} (h : a < 2 ^ 31) : (0 < nI a) ↔ 0 < a := nI_ltI (a := 0) (by decide) h
theorem nt_0 {a : Nat} (h : a < 2 ^ 31) : (nI a < 0) ↔ a < 0 := nI_ltI (b := 0) h (by decide)
theorem ne_0 {a : Nat} (h : a < 2 ^ 31) : (nI a = 0) ↔ a = 0 := nI_eq (b := 0) h (by decide)
theorem lit_0 : (0 : Int32) = nI 0 := rfl
theorem na_1 (a : Nat) : nI a + 1 = nI (a + 1) := nI_add a 1
theorem an_1 (a : Nat) : 1 + nI a = nI (1 + a) := nI_add 1 a
theorem nm_1 (a : Nat) : nI a * 1 = nI (a * 1) := pk_mul a 1
theorem mn_1 (a : Nat) : 1 * nI a = nI (1 * a) := pk_mul 1 a
theorem ns_1 (a : Nat) (h : 1 ≤ a) : nI a - 1 = nI (a - 1) := pk_sub (b := 1) h
theorem ln_1 {a : Nat} (h : a < 2 ^ 31) : (1 ≤ nI a) ↔ 1 ≤ a := nI_leI (a := 1) (by decide) h
theorem nl_1 {a : Nat} (h : a < 2 ^ 31) : (nI a ≤ 1) ↔ a ≤ 1 := nI_leI (b := 1) h (by decide)
theorem tn_1 {a : Nat} (h : a < 2 ^ 31) : (1 < nI a) ↔ 1 < a := nI_ltI (a := 1) (by decide) h
theorem nt_1 {a : Nat} (h : a < 2 ^ 31) : (nI a < 1) ↔ a < 1 := nI_ltI (b := 1) h (by decide)
theorem ne_1 {a : Nat} (h : a < 2 ^ 31) : (nI a = 1) ↔ a = 1 := nI_eq (b := 1) h (by decide)
theorem lit_1 : (1 : Int32) = nI 1 := rfl
theorem na_2 (a : Nat) : nI a + 2 = nI (a + 2) := nI_add a 2
theorem an_2 (a : Nat) : 2 + nI a = nI (2 + a) := nI_add 2 a
theorem nm_2 (a : Nat) : nI a * 2 = nI (a * 2) := pk_mul a 2
theorem mn_2 (a : Nat) : 2 * nI a = nI (2 * a) := pk_mul 2 a
theorem ns_2 (a : Nat) (h : 2 ≤ a) : nI a - 2 = nI (a - 2) := pk_sub (b := 2) h
theorem ln_2 {a : Nat} (h : a < 2 ^ 31) : (2 ≤ nI a) ↔ 2 ≤ a := nI_leI (a := 2) (by decide) h
theorem nl_2 {a : Nat} (h : a < 2 ^ 31) : (nI a ≤ 2) ↔ a ≤ 2 := nI_leI (b := 2) h (by decide)
theorem tn_2 {a : Nat} (h : a < 2 ^ 31) : (2 < nI a) ↔ 2 < a := nI_ltI (a := 2) (by decide) h
theorem nt_2 {a : Nat} (h : a < 2 ^ 31) : (nI a < 2) ↔ a < 2 := nI_ltI (b := 2) h (by decide)
theorem ne_2 {a : Nat} (h : a < 2 ^ 31) : (nI a = 2) ↔ a = 2 := nI_eq (b := 2) h (by decide)
theorem lit_2 : (2 : Int32) = nI 2 := rfl
theorem na_3 (a : Nat) : nI a + 3 = nI (a + 3) := nI_add a 3
theorem an_3 (a : Nat) : 3 + nI a = nI (3 + a) := nI_add 3 a
theorem nm_3 (a : Nat) : nI a * 3 = nI (a * 3) := pk_mul a 3
theorem mn_3 (a : Nat) : 3 * nI a = nI (3 * a) := pk_mul 3 a
theorem ns_3 (a : Nat) (h : 3 ≤ a) : nI a - 3 = nI (a - 3) := pk_sub (b := 3) h
theorem ln_3 {a : Nat} (h : a < 2 ^ 31) : (3 ≤ nI a) ↔ 3 ≤ a := nI_leI (a := 3) (by decide) h
theorem nl_3 {a : Nat} (h : a < 2 ^ 31) : (nI a ≤ 3) ↔ a ≤ 3 := nI_leI (b := 3) h (by decide)
theorem tn_3 {a : Nat} (h : a < 2 ^ 31) : (3 < nI a) ↔ 3 < a := nI_ltI (a := 3) (by decide) h
theorem nt_3 {a : Nat} (h : a < 2 ^ 31) : (nI a < 3) ↔ a < 3 := nI_ltI (b := 3) h (by decide)
theorem ne_3 {a : Nat} (h : a < 2 ^ 31) : (nI a = 3) ↔ a = 3 := nI_eq (b := 3) h (by decide)
theorem lit_3 : (3 : Int32) = nI 3 := rfl
theorem na_4 (a : Nat) : nI a + 4 = nI (a + 4) := nI_add a 4
theorem an_4 (a : Nat) : 4 + nI a = nI (4 + a) := nI_add 4 a
theorem nm_4 (a : Nat) : nI a * 4 = nI (a * 4) := pk_mul a 4
theorem mn_4 (a : Nat) : 4 * nI a = nI (4 * a) := pk_mul 4 a
theorem ns_4 (a : Nat) (h : 4 ≤ a) : nI a - 4 = nI (a - 4) := pk_sub (b := 4) h
theorem ln_4 {a : Nat} (h : a < 2 ^ 31) : (4 ≤ nI a) ↔ 4 ≤ a := nI_leI (a := 4) (by decide) h
theorem nl_4 {a : Nat} (h : a < 2 ^ 31) : (nI a ≤ 4) ↔ a ≤ 4 := nI_leI (b := 4) h (by decide)
theorem tn_4 {a : Nat} (h : a < 2 ^ 31) : (4 < nI a) ↔ 4 < a := nI_ltI (a := 4) (by decide) h
theorem nt_4 {a : Nat} (h : a < 2 ^ 31) : (nI a < 4) ↔ a < 4 := nI_ltI (b := 4) h (by decide)
theorem ne_4 {a : Nat} (h : a < 2 ^ 31) : (nI a = 4) ↔ a = 4 := nI_eq (b := 4) h (by decide)
theorem lit_4 : (4 : Int32) = nI 4 := rfl
theorem na_5 (a : Nat) : nI a + 5 = nI (a + 5) := nI_add a 5
theorem an_5 (a : Nat) : 5 + nI a = nI (5 + a) := nI_add 5 a
theorem nm_5 (a : Nat) : nI a * 5 = nI (a * 5) := pk_mul a 5
theorem mn_5 (a : Nat) : 5 * nI a = nI (5 * a) := pk_mul 5 a
theorem ns_5 (a : Nat) (h : 5 ≤ a) : nI a - 5 = nI (a - 5) := pk_sub (b := 5) h
theorem ln_5 {a : Nat} (h : a < 2 ^ 31) : (5 ≤ nI a) ↔ 5 ≤ a := nI_leI (a := 5) (by decide) h
theorem nl_5 {a : Nat} (h : a < 2 ^ 31) : (nI a ≤ 5) ↔ a ≤ 5 := nI_leI (b := 5) h (by decide)
theorem tn_5 {a : Nat} (h : a < 2 ^ 31) : (5 < nI a) ↔ 5 < a := nI_ltI (a := 5) (by decide) h
theorem nt_5 {a : Nat} (h : a < 2 ^ 31) : (nI a < 5) ↔ a < 5 := nI_ltI (b := 5) h (by decide)
theorem ne_5 {a : Nat} (h : a < 2 ^ 31) : (nI a = 5) ↔ a = 5 := nI_eq (b := 5) h (by decide)
theorem lit_5 : (5 : Int32) = nI 5 := rfl
theorem na_6 (a : Nat) : nI a + 6 = nI (a + 6) := nI_add a 6
theorem an_6 (a : Nat) : 6 + nI a = nI (6 + a) := nI_add 6 a
theorem nm_6 (a : Nat) : nI a * 6 = nI (a * 6) := pk_mul a 6
theorem mn_6 (a : Nat) : 6 * nI a = nI (6 * a) := pk_mul 6 a
theorem ns_6 (a : Nat) (h : 6 ≤ a) : nI a - 6 = nI (a - 6) := pk_sub (b := 6) h
theorem ln_6 {a : Nat} (h : a < 2 ^ 31) : (6 ≤ nI a) ↔ 6 ≤ a := nI_leI (a := 6) (by decide) h
theorem nl_6 {a : Nat} (h : a < 2 ^ 31) : (nI a ≤ 6) ↔ a ≤ 6 := nI_leI (b := 6) h (by decide)
theorem tn_6 {a : Nat} (h : a < 2 ^ 31) : (6 < nI a) ↔ 6 < a := nI_ltI (a := 6) (by decide) h
theorem nt_6 {a : Nat} (h : a < 2 ^ 31) : (nI a < 6) ↔ a < 6 := nI_ltI (b := 6) h (by decide)
theorem ne_6 {a : Nat} (h : a < 2 ^ 31) : (nI a = 6) ↔ a = 6 := nI_eq (b := 6) h (by decide)
theorem lit_6 : (6 : Int32) = nI 6 := rfl
theorem na_7 (a : Nat) : nI a + 7 = nI (a + 7) := nI_add a 7
theorem an_7 (a : Nat) : 7 + nI a = nI (7 + a) := nI_add 7 a
theorem nm_7 (a : Nat) : nI a * 7 = nI (a * 7) := pk_mul a 7
theorem mn_7 (a : Nat) : 7 * nI a = nI (7 * a) := pk_mul 7 a
theorem ns_7 (a : Nat) (h : 7 ≤ a) : nI a - 7 = nI (a - 7) := pk_sub (b := 7) h
theorem ln_7 {a : Nat} (h : a < 2 ^ 31) : (7 ≤ nI a) ↔ 7 ≤ a := nI_leI (a := 7) (by decide) h
theorem nl_7 {a : Nat} (h : a < 2 ^ 31) : (nI a ≤ 7) ↔ a ≤ 7 := nI_leI (b := 7) h (by decide)
theorem tn_7 {a : Nat} (h : a < 2 ^ 31) : (7 < nI a) ↔ 7 < a := nI_ltI (a := 7) (by decide) h
theorem nt_7 {a : Nat} (h : a < 2 ^ 31) : (nI a < 7) ↔ a < 7 := nI_ltI (b := 7) h (by decide)
theorem ne_7 {a : Nat} (h : a < 2 ^ 31) : (nI a = 7) ↔ a = 7 := nI_eq (b := 7) h (by decide)
theorem lit_7 : (7 : Int32) = nI 7 := rfl
theorem na_8 (a : Nat) : nI a + 8 = nI (a + 8) := nI_add a 8
theorem an_8 (a : Nat) : 8 + nI a = nI (8 + a) := nI_add 8 a
theorem nm_8 (a : Nat) : nI a * 8 = nI (a * 8) := pk_mul a 8
theorem mn_8 (a : Nat) : 8 * nI a = nI (8 * a) := pk_mul 8 a
theorem ns_8 (a : Nat) (h : 8 ≤ a) : nI a - 8 = nI (a - 8) := pk_sub (b := 8) h
theorem ln_8 {a : Nat} (h : a < 2 ^ 31) : (8 ≤ nI a) ↔ 8 ≤ a := nI_leI (a := 8) (by decide) h
theorem nl_8 {a : Nat} (h : a < 2 ^ 31) : (nI a ≤ 8) ↔ a ≤ 8 := nI_leI (b := 8) h (by decide)
theorem tn_8 {a : Nat} (h : a < 2 ^ 31) : (8 < nI a) ↔ 8 < a := nI_ltI (a := 8) (by decide) h
theorem nt_8 {a : Nat} (h : a < 2 ^ 31) : (nI a < 8) ↔ a < 8 := nI_ltI (b := 8) h (by decide)
theorem ne_8 {a : Nat} (h : a < 2 ^ 31) : (nI a = 8) ↔ a = 8 := nI_eq (b := 8) h (by decide)
theorem lit_8 : (8 : Int32) = nI 8 := rfl
theorem na_10 (a : Nat) : nI a + 10 = nI (a + 10) := nI_add a 10
theorem an_10 (a : Nat) : 10 + nI a = nI (10 + a) := nI_add 10 a
theorem nm_10 (a : Nat) : nI a * 10 = nI (a * 10) := pk_mul a 10
theorem mn_10 (a : Nat) : 10 * nI a = nI (10 * a) := pk_mul 10 a
theorem ns_10 (a : Nat) (h : 10 ≤ a) : nI a - 10 = nI (a - 10) := pk_sub (b := 10) h
theorem ln_10 {a : Nat} (h : a < 2 ^ 31) : (10 ≤ nI a) ↔ 10 ≤ a := nI_leI (a := 10) (by decide) h
theorem nl_10 {a : Nat} (h : a < 2 ^ 31) : (nI a ≤ 10) ↔ a ≤ 10 := nI_leI (b := 10) h (by decide)
theorem tn_10 {a : Nat} (h : a < 2 ^ 31) : (10 < nI a) ↔ 10 < a := nI_ltI (a := 10) (by decide) h
theorem nt_10 {a : Nat} (h : a < 2 ^ 31) : (nI a < 10) ↔ a < 10 := nI_ltI (b := 10) h (by decide)
theorem ne_10 {a : Nat} (h : a < 2 ^ 31) : (nI a = 10) ↔ a = 10 := nI_eq (b := 10) h (by decide)
theorem lit_10 : (10 : Int32) = nI 10 := rfl
theorem na_11 (a : Nat) : nI a + 11 = nI (a + 11) := nI_add a 11
theorem an_11 (a : Nat) : 11 + nI a = nI (11 + a) := nI_add 11 a
theorem nm_11 (a : Nat) : nI a * 11 = nI (a * 11) := pk_mul a 11
theorem mn_11 (a : Nat) : 11 * nI a = nI (11 * a) := pk_mul 11 a
theorem ns_11 (a : Nat) (h : 11 ≤ a) : nI a - 11 = nI (a - 11) := pk_sub (b := 11) h
theorem ln_11 {a : Nat} (h : a < 2 ^ 31) : (11 ≤ nI a) ↔ 11 ≤ a := nI_leI (a := 11) (by decide) h
theorem nl_11 {a : Nat} (h : a < 2 ^ 31) : (nI a ≤ 11) ↔ a ≤ 11 := nI_leI (b := 11) h (by decide)
theorem tn_11 {a : Nat} (h : a < 2 ^ 31) : (11 < nI a) ↔ 11 < a := nI_ltI (a := 11) (by decide) h
theorem nt_11 {a : Nat} (h : a < 2 ^ 31) : (nI a < 11) ↔ a < 11 := nI_ltI (b := 11) h (by decide)
theorem ne_11 {a : Nat} (h : a < 2 ^ 31) : (nI a = 11) ↔ a = 11 := nI_eq (b := 11) h (by decide)
theorem lit_11 : (11 : Int32) = nI 11 := rfl
theorem na_12 (a : Nat) : nI a + 12 = nI (a + 12) := nI_add a 12
theorem an_12 (a : Nat) : 12 + nI a = nI (12 + a) := nI_add 12 a
theorem nm_12 (a : Nat) : nI a * 12 = nI (a * 12) := pk_mul a 12
theorem mn_12 (a : Nat) : 12 * nI a = nI (12 * a) := pk_mul 12 a
theorem ns_12 (a : Nat) (h : 12 ≤ a) : nI a - 12 = nI (a - 12) := pk_sub (b := 12) h
theorem ln_12 {a : Nat} (h : a < 2 ^ 31) : (12 ≤ nI a) ↔ 12 ≤ a := nI_leI (a := 12) (by decide) h
theorem nl_12 {a : Nat} (h : a < 2 ^ 31) : (nI a ≤ 12) ↔ a ≤ 12 := nI_leI (b := 12) h (by decide)
theorem tn_12 {a : Nat} (h : a < 2 ^ 31) : (12 < nI a) ↔ 12 < a := nI_ltI (a := 12) (by decide) h
theorem nt_12 {a : Nat} (h : a < 2 ^ 31) : (nI a < 12) ↔ a < 12 := nI_ltI (b := 12) h (by decide)
theorem ne_12 {a : Nat} (h : a < 2 ^ 31) : (nI a = 12) ↔ a = 12 := nI_eq (b := 12) h (by decide)
theorem lit_12 : (12 : Int32) = nI 12 := rfl
theorem na_13 (a : Nat) : nI a + 13 = nI (a + 13) := nI_add a 13
theorem an_13 (a : Nat) : 13 + nI a = nI (13 + a) := nI_add 13 a
theorem nm_13 (a : Nat) : nI a * 13 = nI (a * 13) := pk_mul a 13
theorem mn_13 (a : Nat) : 13 * nI a = nI (13 * a) := pk_mul 13 a
theorem ns_13 (a : Nat) (h : 13 ≤ a) : nI a - 13 = nI (a - 13) := pk_sub (b := 13) h
theorem ln_13 {a : Nat} (h : a < 2 ^ 31) : (13 ≤ nI a) ↔ 13 ≤ a := nI_leI (a := 13) (by decide) h
theorem nl_13 {a : Nat} (h : a < 2 ^ 31) : (nI a ≤ 13) ↔ a ≤ 13 := nI_leI (b := 13) h (by decide)
theorem tn_13 {a : Nat} (h : a < 2 ^ 31) : (13 < nI a) ↔ 13 < a := nI_ltI (a := 13) (by decide) h
theorem nt_13 {a : Nat} (h : a < 2 ^ 31) : (nI a < 13) ↔ a < 13 := nI_ltI (b := 13) h (by decide)
theorem ne_13 {a : Nat} (h : a < 2 ^ 31) : (nI a = 13) ↔ a = 13 := nI_eq (b := 13) h (by decide)
theorem lit_13 : (13 : Int32) = nI 13 := rfl
theorem na_15 (a : Nat) : nI a + 15 = nI (a + 15) := nI_add a 15
theorem an_15 (a : Nat) : 15 + nI a = nI (15 + a) := nI_add 15 a
theorem nm_15 (a : Nat) : nI a * 15 = nI (a * 15) := pk_mul a 15
theorem mn_15 (a : Nat) : 15 * nI a = nI (15 * a) := pk_mul 15 a
theorem ns_15 (a : Nat) (h : 15 ≤ a) : nI a - 15 = nI (a - 15) := pk_sub (b := 15) h
theorem ln_15 {a : Nat} (h : a < 2 ^ 31) : (15 ≤ nI a) ↔ 15 ≤ a := nI_leI (a := 15) (by decide) h
theorem nl_15 {a : Nat} (h : a < 2 ^ 31) : (nI a ≤ 15) ↔ a ≤ 15 := nI_leI (b := 15) h (by decide)
theorem tn_15 {a : Nat} (h : a < 2 ^ 31) : (15 < nI a) ↔ 15 < a := nI_ltI (a := 15) (by decide) h
theorem nt_15 {a : Nat} (h : a < 2 ^ 31) : (nI a < 15) ↔ a < 15 := nI_ltI (b := 15) h (by decide)
theorem ne_15 {a : Nat} (h : a < 2 ^ 31) : (nI a = 15) ↔ a = 15 := nI_eq (b := 15) h (by decide)
theorem lit_15 : (15 : Int32) = nI 15 := rfl
theorem na_16 (a : Nat) : nI a + 16 = nI (a + 16) := nI_add a 16
theorem an_16 (a : Nat) : 16 + nI a = nI (16 + a) := nI_add 16 a
theorem nm_16 (a : Nat) : nI a * 16 = nI (a * 16) := pk_mul a 16
theorem mn_16 (a : Nat) : 16 * nI a = nI (16 * a) := pk_mul 16 a
theorem ns_16 (a : Nat) (h : 16 ≤ a) : nI a - 16 = nI (a - 16) := pk_sub (b := 16) h
theorem ln_16 {a : Nat} (h : a < 2 ^ 31) : (16 ≤ nI a) ↔ 16 ≤ a := nI_leI (a := 16) (by decide) h
theorem nl_16 {a : Nat} (h : a < 2 ^ 31) : (nI a ≤ 16) ↔ a ≤ 16 := nI_leI (b := 16) h (by decide)
theorem tn_16 {a : Nat} (h : a < 2 ^ 31) : (16 < nI a) ↔ 16 < a := nI_ltI (a := 16) (by decide) h
theorem nt_16 {a : Nat} (h : a < 2 ^ 31) : (nI a < 16) ↔ a < 16 := nI_ltI (b := 16) h (by decide)
theorem ne_16 {a : Nat} (h : a < 2 ^ 31) : (nI a = 16) ↔ a = 16 := nI_eq (b := 16) h (by decide)
theorem lit_16 : (16 : Int32) = nI 16 := rfl
theorem na_30 (a : Nat) : nI a + 30 = nI (a + 30) := nI_add a 30
theorem an_30 (a : Nat) : 30 + nI a = nI (30 + a) := nI_add 30 a
theorem nm_30 (a : Nat) : nI a * 30 = nI (a * 30) := pk_mul a 30
theorem mn_30 (a : Nat) : 30 * nI a = nI (30 * a) := pk_mul 30 a
theorem ns_30 (a : Nat) (h : 30 ≤ a) : nI a - 30 = nI (a - 30) := pk_sub (b := 30) h
theorem ln_30 {a : Nat} (h : a < 2 ^ 31) : (30 ≤ nI a) ↔ 30 ≤ a := nI_leI (a := 30) (by decide) h
theorem nl_30 {a : Nat} (h : a < 2 ^ 31) : (nI a ≤ 30) ↔ a ≤ 30 := nI_leI (b := 30) h (by decide)
theorem tn_30 {a : Nat} (h : a < 2 ^ 31) : (30 < nI a) ↔ 30 < a := nI_ltI (a := 30) (by decide) h
theorem nt_30 {a : Nat} (h : a < 2 ^ 31) : (nI a < 30) ↔ a < 30 := nI_ltI (b := 30) h (by decide)
theorem ne_30 {a : Nat} (h : a < 2 ^ 31) : (nI a = 30) ↔ a = 30 := nI_eq (b := 30) h (by decide)
theorem lit_30 : (30 : Int32) = nI 30 := rfl
theorem na_60 (a : Nat) : nI a + 60 = nI (a + 60) := nI_add a 60
theorem an_60 (a : Nat) : 60 + nI a = nI (60 + a) := nI_add 60 a
theorem nm_60 (a : Nat) : nI a * 60 = nI (a * 60) := pk_mul a 60
theorem mn_60 (a : Nat) : 60 * nI a = nI (60 * a) := pk_mul 60 a
theorem ns_60 (a : Nat) (h : 60 ≤ a) : nI a - 60 = nI (a - 60) := pk_sub (b := 60) h
theorem ln_60 {a : Nat} (h : a < 2 ^ 31) : (60 ≤ nI a) ↔ 60 ≤ a := nI_leI (a := 60) (by decide) h
theorem nl_60 {a : Nat} (h : a < 2 ^ 31) : (nI a ≤ 60) ↔ a ≤ 60 := nI_leI (b := 60) h (by decide)
theorem tn_60 {a : Nat} (h : a < 2 ^ 31) : (60 < nI a) ↔ 60 < a := nI_ltI (a := 60) (by decide) h
theorem nt_60 {a : Nat} (h : a < 2 ^ 31) : (nI a < 60) ↔ a < 60 := nI_ltI (b := 60) h (by decide)
theorem ne_60 {a : Nat} (h : a < 2 ^ 31) : (nI a = 60) ↔ a = 60 := nI_eq (b := 60) h (by decide)
theorem lit_60 : (60 : Int32) = nI 60 := rfl
theorem na_256 (a : Nat) : nI a + 256 = nI (a + 256) := nI_add a 256
theorem an_256 (a : Nat) : 256 + nI a = nI (256 + a) := nI_add 256 a
theorem nm_256 (a : Nat) : nI a * 256 = nI (a * 256) := pk_mul a 256
theorem mn_256 (a : Nat) : 256 * nI a = nI (256 * a) := pk_mul 256 a
theorem ns_256 (a : Nat) (h : 256 ≤ a) : nI a - 256 = nI (a - 256) := pk_sub (b := 256) h
theorem ln_256 {a : Nat} (h : a < 2 ^ 31) : (256 ≤ nI a) ↔ 256 ≤ a := nI_leI (a := 256) (by decide) h
theorem nl_256 {a : Nat} (h : a < 2 ^ 31) : (nI a ≤ 256) ↔ a ≤ 256 := nI_leI (b := 256) h (by decide)
theorem tn_256 {a : Nat} (h : a < 2 ^ 31) : (256 < nI a) ↔ 256 < a := nI_ltI (a := 256) (by decide) h
theorem nt_256 {a : Nat} (h : a < 2 ^ 31) : (nI a < 256) ↔ a < 256 := nI_ltI (b := 256) h (by decide)
theorem ne_256 {a : Nat} (h : a < 2 ^ 31) : (nI a = 256) ↔ a = 256 := nI_eq (b := 256) h (by decide)
theorem lit_256 : (256 : Int32) = nI 256 := rfl
theorem na_300 (a : Nat) : nI a + 300 = nI (a + 300) := nI_add a 300
theorem an_300 (a : Nat) : 300 + nI a = nI (300 + a) := nI_add 300 a
theorem nm_300 (a : Nat) : nI a * 300 = nI (a * 300) := pk_mul a 300
theorem mn_300 (a : Nat) : 300 * nI a = nI (300 * a) := pk_mul 300 a
theorem ns_300 (a : Nat) (h : 300 ≤ a) : nI a - 300 = nI (a - 300) := pk_sub (b := 300) h
theorem ln_300 {a : Nat} (h : a < 2 ^ 31) : (300 ≤ nI a) ↔ 300 ≤ a := nI_leI (a := 300) (by decide) h
theorem nl_300 {a : Nat} (h : a < 2 ^ 31) : (nI a ≤ 300) ↔ a ≤ 300 := nI_leI (b := 300) h (by decide)
theorem tn_300 {a : Nat} (h : a < 2 ^ 31) : (300 < nI a) ↔ 300 < a := nI_ltI (a := 300) (by decide) h
theorem nt_300 {a : Nat} (h : a < 2 ^ 31) : (nI a < 300) ↔ a < 300 := nI_ltI (b := 300) h (by decide)
theorem ne_300 {a : Nat} (h : a < 2 ^ 31) : (nI a = 300) ↔ a = 300 := nI_eq (b := 300) h (by decide)
theorem lit_300 : (300 : Int32) = nI 300 := rfl
theorem na_400 (a : Nat) : nI a + 400 = nI (a + 400) := nI_add a 400
theorem an_400 (a : Nat) : 400 + nI a = nI (400 + a) := nI_add 400 a
theorem nm_400 (a : Nat) : nI a * 400 = nI (a * 400) := pk_mul a 400
theorem mn_400 (a : Nat) : 400 * nI a = nI (400 * a) := pk_mul 400 a
theorem ns_400 (a : Nat) (h : 400 ≤ a) : nI a - 400 = nI (a - 400) := pk_sub (b := 400) h
theorem ln_400 {a : Nat} (h : a < 2 ^ 31) : (400 ≤ nI a) ↔ 400 ≤ a := nI_leI (a := 400) (by decide) h
theorem nl_400 {a : Nat} (h : a < 2 ^ 31) : (nI a ≤ 400) ↔ a ≤ 400 := nI_leI (b := 400) h (by decide)
theorem tn_400 {a : Nat} (h : a < 2 ^ 31) : (400 < nI a) ↔ 400 < a := nI_ltI (a := 400) (by decide) h
theorem nt_400 {a : Nat} (h : a < 2 ^ 31) : (nI a < 400) ↔ a < 400 := nI_ltI (b := 400) h (by decide)
theorem ne_400 {a : Nat} (h : a < 2 ^ 31) : (nI a = 400) ↔ a = 400 := nI_eq (b := 400) h (by decide)
theorem lit_400 : (400 : Int32) = nI 400 := rfl
theorem na_500 (a : Nat) : nI a + 500 = nI (a + 500) := nI_add a 500
theorem an_500 (a : Nat) : 500 + nI a = nI (500 + a) := nI_add 500 a
theorem nm_500 (a : Nat) : nI a * 500 = nI (a * 500) := pk_mul a 500
theorem mn_500 (a : Nat) : 500 * nI a = nI (500 * a) := pk_mul 500 a
theorem ns_500 (a : Nat) (h : 500 ≤ a) : nI a - 500 = nI (a - 500) := pk_sub (b := 500) h
theorem ln_500 {a : Nat} (h : a < 2 ^ 31) : (500 ≤ nI a) ↔ 500 ≤ a := nI_leI (a := 500) (by decide) h
theorem nl_500 {a : Nat} (h : a < 2 ^ 31) : (nI a ≤ 500) ↔ a ≤ 500 := nI_leI (b := 500) h (by decide)
theorem tn_500 {a : Nat} (h : a < 2 ^ 31) : (500 < nI a) ↔ 500 < a := nI_ltI (a := 500) (by decide) h
theorem nt_500 {a : Nat} (h : a < 2 ^ 31) : (nI a < 500) ↔ a < 500 := nI_ltI (b := 500) h (by decide)
theorem ne_500 {a : Nat} (h : a < 2 ^ 31) : (nI a = 500) ↔ a = 500 := nI_eq (b := 500) h (by decide)
theorem lit_500 : (500 : Int32) = nI 500 := rfl
theorem na_1023 (a : Nat) : nI a + 1023 = nI (a + 1023) := nI_add a 1023
theorem an_1023 (a : Nat) : 1023 + nI a = nI (1023 + a) := nI_add 1023 a
theorem nm_1023 (a : Nat) : nI a * 1023 = nI (a * 1023) := pk_mul a 1023
theorem mn_1023 (a : Nat) : 1023 * nI a = nI (1023 * a) := pk_mul 1023 a
theorem ns_1023 (a : Nat) (h : 1023 ≤ a) : nI a - 1023 = nI (a - 1023) := pk_sub (b := 1023) h
theorem ln_1023 {a : Nat} (h : a < 2 ^ 31) : (1023 ≤ nI a) ↔ 1023 ≤ a := nI_leI (a := 1023) (by decide) h
theorem nl_1023 {a : Nat} (h : a < 2 ^ 31) : (nI a ≤ 1023) ↔ a ≤ 1023 := nI_leI (b := 1023) h (by decide)
theorem tn_1023 {a : Nat} (h : a < 2 ^ 31) : (1023 < nI a) ↔ 1023 < a := nI_ltI (a := 1023) (by decide) h
theorem nt_1023 {a : Nat} (h : a < 2 ^ 31) : (nI a < 1023) ↔ a < 1023 := nI_ltI (b := 1023) h (by decide)
theorem ne_1023 {a : Nat} (h : a < 2 ^ 31) : (nI a = 1023) ↔ a = 1023 := nI_eq (b := 1023) h (by decide)
theorem lit_1023 : (1023 : Int32) = nI 1023 := rfl
theorem na_1024 (a : Nat) : nI a + 1024 = nI (a + 1024) := nI_add a 1024
theorem an_1024 (a : Nat) : 1024 + nI a = nI (1024 + a) := nI_add 1024 a
theorem nm_1024 (a : Nat) : nI a * 1024 = nI (a * 1024) := pk_mul a 1024
theorem mn_1024 (a : Nat) : 1024 * nI a = nI (1024 * a) := pk_mul 1024 a
theorem ns_1024 (a : Nat) (h : 1024 ≤ a) : nI a - 1024 = nI (a - 1024) := pk_sub (b := 1024) h
theorem ln_1024 {a : Nat} (h : a < 2 ^ 31) : (1024 ≤ nI a) ↔ 1024 ≤ a := nI_leI (a := 1024) (by decide) h
theorem nl_1024 {a : Nat} (h : a < 2 ^ 31) : (nI a ≤ 1024) ↔ a ≤ 1024 := nI_leI (b := 1024) h (by decide)
theorem tn_1024 {a : Nat} (h : a < 2 ^ 31) : (1024 < nI a) ↔ 1024 < a := nI_ltI (a := 1024) (by decide) h
theorem nt_1024 {a : Nat} (h : a < 2 ^ 31) : (nI a < 1024) ↔ a < 1024 := nI_ltI (b := 1024) h (by decide)
theorem ne_1024 {a : Nat} (h : a < 2 ^ 31) : (nI a = 1024) ↔ a = 1024 := nI_eq (b := 1024) h (by decide)
theorem lit_1024 : (1024 : Int32) = nI 1024 := rfl

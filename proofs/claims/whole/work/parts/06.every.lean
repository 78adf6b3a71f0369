/-- every row of every method is right -/
noncomputable def ai_okA (m : Nat) : Prop := ∀ (i : Nat) (e : ai_E), ai_nth (ai_ops m) i = some e → ai_ok m i e = true
theorem ai_okA_0 : ai_okA 0 := fun i e he => ai_okM_use ai_okM_0 (m := 0) (a := 0) (n := 39) (by simp) (Nat.zero_le i) (by have := ai_len_lt he; exact Nat.lt_of_lt_of_le this (by decide +kernel)) he
theorem ai_okA_1 : ai_okA 1 := fun i e he => ai_okM_use ai_okM_0 (m := 1) (a := 0) (n := 16) (by simp) (Nat.zero_le i) (by have := ai_len_lt he; exact Nat.lt_of_lt_of_le this (by decide +kernel)) he
theorem ai_okA_2 : ai_okA 2 := fun i e he => ai_okM_use ai_okM_1 (m := 2) (a := 0) (n := 66) (by simp) (Nat.zero_le i) (by have := ai_len_lt he; exact Nat.lt_of_lt_of_le this (by decide +kernel)) he
theorem ai_okA_3 : ai_okA 3 := fun i e he => ai_okM_use ai_okM_1 (m := 3) (a := 0) (n := 5) (by simp) (Nat.zero_le i) (by have := ai_len_lt he; exact Nat.lt_of_lt_of_le this (by decide +kernel)) he
theorem ai_okA_4 : ai_okA 4 := fun i e he => ai_okM_use ai_okM_1 (m := 4) (a := 0) (n := 5) (by simp) (Nat.zero_le i) (by have := ai_len_lt he; exact Nat.lt_of_lt_of_le this (by decide +kernel)) he
theorem ai_okA_5 : ai_okA 5 := fun i e he => ai_okM_use ai_okM_1 (m := 5) (a := 0) (n := 42) (by simp) (Nat.zero_le i) (by have := ai_len_lt he; exact Nat.lt_of_lt_of_le this (by decide +kernel)) he
theorem ai_okA_6 : ai_okA 6 := fun i e he => ai_okM_use ai_okM_2 (m := 6) (a := 0) (n := 3) (by simp) (Nat.zero_le i) (by have := ai_len_lt he; exact Nat.lt_of_lt_of_le this (by decide +kernel)) he
theorem ai_okA_7 : ai_okA 7 := fun i e he => ai_okM_use ai_okM_2 (m := 7) (a := 0) (n := 28) (by simp) (Nat.zero_le i) (by have := ai_len_lt he; exact Nat.lt_of_lt_of_le this (by decide +kernel)) he
theorem ai_okA_8 : ai_okA 8 := fun i e he => ai_okM_use ai_okM_2 (m := 8) (a := 0) (n := 50) (by simp) (Nat.zero_le i) (by have := ai_len_lt he; exact Nat.lt_of_lt_of_le this (by decide +kernel)) he
theorem ai_okA_9 : ai_okA 9 := fun i e he => ai_okM_use ai_okM_2 (m := 9) (a := 0) (n := 16) (by simp) (Nat.zero_le i) (by have := ai_len_lt he; exact Nat.lt_of_lt_of_le this (by decide +kernel)) he
theorem ai_okA_10 : ai_okA 10 := fun i e he => ai_okM_use ai_okM_2 (m := 10) (a := 0) (n := 17) (by simp) (Nat.zero_le i) (by have := ai_len_lt he; exact Nat.lt_of_lt_of_le this (by decide +kernel)) he
theorem ai_okA_11 : ai_okA 11 := fun i e he => ai_okM_use ai_okM_3 (m := 11) (a := 0) (n := 20) (by simp) (Nat.zero_le i) (by have := ai_len_lt he; exact Nat.lt_of_lt_of_le this (by decide +kernel)) he
theorem ai_okA_12 : ai_okA 12 := fun i e he => ai_okM_use ai_okM_3 (m := 12) (a := 0) (n := 20) (by simp) (Nat.zero_le i) (by have := ai_len_lt he; exact Nat.lt_of_lt_of_le this (by decide +kernel)) he
theorem ai_okA_13 : ai_okA 13 := fun i e he => ai_okM_use ai_okM_3 (m := 13) (a := 0) (n := 23) (by simp) (Nat.zero_le i) (by have := ai_len_lt he; exact Nat.lt_of_lt_of_le this (by decide +kernel)) he
theorem ai_okA_14 : ai_okA 14 := fun i e he => ai_okM_use ai_okM_3 (m := 14) (a := 0) (n := 19) (by simp) (Nat.zero_le i) (by have := ai_len_lt he; exact Nat.lt_of_lt_of_le this (by decide +kernel)) he
theorem ai_okA_15 : ai_okA 15 := fun i e he => ai_okM_use ai_okM_3 (m := 15) (a := 0) (n := 22) (by simp) (Nat.zero_le i) (by have := ai_len_lt he; exact Nat.lt_of_lt_of_le this (by decide +kernel)) he
theorem ai_okA_16 : ai_okA 16 := fun i e he => ai_okM_use ai_okM_4 (m := 16) (a := 0) (n := 30) (by simp) (Nat.zero_le i) (by have := ai_len_lt he; exact Nat.lt_of_lt_of_le this (by decide +kernel)) he
theorem ai_okA_17 : ai_okA 17 := fun i e he => ai_okM_use ai_okM_4 (m := 17) (a := 0) (n := 28) (by simp) (Nat.zero_le i) (by have := ai_len_lt he; exact Nat.lt_of_lt_of_le this (by decide +kernel)) he
theorem ai_okA_18 : ai_okA 18 := fun i e he => ai_okM_use ai_okM_4 (m := 18) (a := 0) (n := 32) (by simp) (Nat.zero_le i) (by have := ai_len_lt he; exact Nat.lt_of_lt_of_le this (by decide +kernel)) he
theorem ai_okA_19 : ai_okA 19 := fun i e he => ai_okM_use ai_okM_4 (m := 19) (a := 0) (n := 18) (by simp) (Nat.zero_le i) (by have := ai_len_lt he; exact Nat.lt_of_lt_of_le this (by decide +kernel)) he
theorem ai_okA_20 : ai_okA 20 := fun i e he => ai_okM_use ai_okM_5 (m := 20) (a := 0) (n := 14) (by simp) (Nat.zero_le i) (by have := ai_len_lt he; exact Nat.lt_of_lt_of_le this (by decide +kernel)) he
theorem ai_okA_21 : ai_okA 21 := fun i e he => ai_okM_use ai_okM_5 (m := 21) (a := 0) (n := 4) (by simp) (Nat.zero_le i) (by have := ai_len_lt he; exact Nat.lt_of_lt_of_le this (by decide +kernel)) he
theorem ai_okA_22 : ai_okA 22 := fun i e he => ai_okM_use ai_okM_5 (m := 22) (a := 0) (n := 5) (by simp) (Nat.zero_le i) (by have := ai_len_lt he; exact Nat.lt_of_lt_of_le this (by decide +kernel)) he
theorem ai_okA_23 : ai_okA 23 := fun i e he => ai_okM_use ai_okM_5 (m := 23) (a := 0) (n := 9) (by simp) (Nat.zero_le i) (by have := ai_len_lt he; exact Nat.lt_of_lt_of_le this (by decide +kernel)) he
theorem ai_okA_24 : ai_okA 24 := fun i e he => ai_okM_use ai_okM_5 (m := 24) (a := 0) (n := 19) (by simp) (Nat.zero_le i) (by have := ai_len_lt he; exact Nat.lt_of_lt_of_le this (by decide +kernel)) he
theorem ai_okA_25 : ai_okA 25 := fun i e he => ai_okM_use ai_okM_5 (m := 25) (a := 0) (n := 67) (by simp) (Nat.zero_le i) (by have := ai_len_lt he; exact Nat.lt_of_lt_of_le this (by decide +kernel)) he
theorem ai_okA_26 : ai_okA 26 := fun i e he => ai_okM_use ai_okM_6 (m := 26) (a := 0) (n := 57) (by simp) (Nat.zero_le i) (by have := ai_len_lt he; exact Nat.lt_of_lt_of_le this (by decide +kernel)) he
theorem ai_okA_27 : ai_okA 27 := fun i e he => ai_okM_use ai_okM_6 (m := 27) (a := 0) (n := 38) (by simp) (Nat.zero_le i) (by have := ai_len_lt he; exact Nat.lt_of_lt_of_le this (by decide +kernel)) he
theorem ai_okA_28 : ai_okA 28 := fun i e he => ai_okM_use ai_okM_7 (m := 28) (a := 0) (n := 66) (by simp) (Nat.zero_le i) (by have := ai_len_lt he; exact Nat.lt_of_lt_of_le this (by decide +kernel)) he
theorem ai_okA_29 : ai_okA 29 := fun i e he => ai_okM_use ai_okM_7 (m := 29) (a := 0) (n := 39) (by simp) (Nat.zero_le i) (by have := ai_len_lt he; exact Nat.lt_of_lt_of_le this (by decide +kernel)) he
theorem ai_okA_30 : ai_okA 30 := fun i e he => ai_okM_use ai_okM_8 (m := 30) (a := 0) (n := 54) (by simp) (Nat.zero_le i) (by have := ai_len_lt he; exact Nat.lt_of_lt_of_le this (by decide +kernel)) he
theorem ai_okA_31 : ai_okA 31 := fun i e he => ai_okM_use ai_okM_8 (m := 31) (a := 0) (n := 25) (by simp) (Nat.zero_le i) (by have := ai_len_lt he; exact Nat.lt_of_lt_of_le this (by decide +kernel)) he
theorem ai_okA_32 : ai_okA 32 := fun i e he => ai_okM_use ai_okM_8 (m := 32) (a := 0) (n := 20) (by simp) (Nat.zero_le i) (by have := ai_len_lt he; exact Nat.lt_of_lt_of_le this (by decide +kernel)) he
theorem ai_okA_33 : ai_okA 33 := fun i e he => ai_okM_use ai_okM_8 (m := 33) (a := 0) (n := 11) (by simp) (Nat.zero_le i) (by have := ai_len_lt he; exact Nat.lt_of_lt_of_le this (by decide +kernel)) he
theorem ai_okA_34 : ai_okA 34 := fun i e he => ai_okM_use ai_okM_9 (m := 34) (a := 0) (n := 28) (by simp) (Nat.zero_le i) (by have := ai_len_lt he; exact Nat.lt_of_lt_of_le this (by decide +kernel)) he
theorem ai_okA_35 : ai_okA 35 := fun i e he => ai_okM_use ai_okM_9 (m := 35) (a := 0) (n := 28) (by simp) (Nat.zero_le i) (by have := ai_len_lt he; exact Nat.lt_of_lt_of_le this (by decide +kernel)) he
theorem ai_okA_36 : ai_okA 36 := fun i e he => ai_okM_use ai_okM_9 (m := 36) (a := 0) (n := 37) (by simp) (Nat.zero_le i) (by have := ai_len_lt he; exact Nat.lt_of_lt_of_le this (by decide +kernel)) he
theorem ai_okA_37 : ai_okA 37 := fun i e he => ai_okM_use ai_okM_10 (m := 37) (a := 0) (n := 32) (by simp) (Nat.zero_le i) (by have := ai_len_lt he; exact Nat.lt_of_lt_of_le this (by decide +kernel)) he
theorem ai_okA_38 : ai_okA 38 := fun i e he => ai_okM_use ai_okM_10 (m := 38) (a := 0) (n := 43) (by simp) (Nat.zero_le i) (by have := ai_len_lt he; exact Nat.lt_of_lt_of_le this (by decide +kernel)) he
theorem ai_okA_39 : ai_okA 39 := fun i e he => ai_okM_use ai_okM_11 (m := 39) (a := 0) (n := 49) (by simp) (Nat.zero_le i) (by have := ai_len_lt he; exact Nat.lt_of_lt_of_le this (by decide +kernel)) he
theorem ai_okA_40 : ai_okA 40 := fun i e he => ai_okM_use ai_okM_12 (m := 40) (a := 0) (n := 77) (by simp) (Nat.zero_le i) (by have := ai_len_lt he; exact Nat.lt_of_lt_of_le this (by decide +kernel)) he
theorem ai_okA_41 : ai_okA 41 := fun i e he => ai_okM_use ai_okM_13 (m := 41) (a := 0) (n := 44) (by simp) (Nat.zero_le i) (by have := ai_len_lt he; exact Nat.lt_of_lt_of_le this (by decide +kernel)) he
theorem ai_okA_42 : ai_okA 42 := fun i e he => ai_okM_use ai_okM_13 (m := 42) (a := 0) (n := 51) (by simp) (Nat.zero_le i) (by have := ai_len_lt he; exact Nat.lt_of_lt_of_le this (by decide +kernel)) he
theorem ai_okA_43 : ai_okA 43 := fun i e he => ai_okM_use ai_okM_14 (m := 43) (a := 0) (n := 78) (by simp) (Nat.zero_le i) (by have := ai_len_lt he; exact Nat.lt_of_lt_of_le this (by decide +kernel)) he
theorem ai_okA_44 : ai_okA 44 := fun i e he => ai_okM_use ai_okM_14 (m := 44) (a := 0) (n := 25) (by simp) (Nat.zero_le i) (by have := ai_len_lt he; exact Nat.lt_of_lt_of_le this (by decide +kernel)) he
theorem ai_okA_45 : ai_okA 45 := fun i e he => ai_okM_use ai_okM_15 (m := 45) (a := 0) (n := 58) (by simp) (Nat.zero_le i) (by have := ai_len_lt he; exact Nat.lt_of_lt_of_le this (by decide +kernel)) he
theorem ai_okA_46 : ai_okA 46 := fun i e he => ai_okM_use ai_okM_15 (m := 46) (a := 0) (n := 11) (by simp) (Nat.zero_le i) (by have := ai_len_lt he; exact Nat.lt_of_lt_of_le this (by decide +kernel)) he
theorem ai_okA_47 : ai_okA 47 := fun i e he => ai_okM_use ai_okM_15 (m := 47) (a := 0) (n := 8) (by simp) (Nat.zero_le i) (by have := ai_len_lt he; exact Nat.lt_of_lt_of_le this (by decide +kernel)) he
theorem ai_okA_48 : ai_okA 48 := fun i e he => ai_okM_use ai_okM_15 (m := 48) (a := 0) (n := 21) (by simp) (Nat.zero_le i) (by have := ai_len_lt he; exact Nat.lt_of_lt_of_le this (by decide +kernel)) he
theorem ai_okA_49 : ai_okA 49 := fun i e he => ai_okM_use ai_okM_16 (m := 49) (a := 0) (n := 41) (by simp) (Nat.zero_le i) (by have := ai_len_lt he; exact Nat.lt_of_lt_of_le this (by decide +kernel)) he
theorem ai_okA_50 : ai_okA 50 := fun i e he => ai_okM_use ai_okM_16 (m := 50) (a := 0) (n := 7) (by simp) (Nat.zero_le i) (by have := ai_len_lt he; exact Nat.lt_of_lt_of_le this (by decide +kernel)) he
theorem ai_okA_51 : ai_okA 51 := fun i e he => ai_okM_use ai_okM_16 (m := 51) (a := 0) (n := 32) (by simp) (Nat.zero_le i) (by have := ai_len_lt he; exact Nat.lt_of_lt_of_le this (by decide +kernel)) he
theorem ai_okA_52 : ai_okA 52 := fun i e he => ai_okM_use ai_okM_16 (m := 52) (a := 0) (n := 31) (by simp) (Nat.zero_le i) (by have := ai_len_lt he; exact Nat.lt_of_lt_of_le this (by decide +kernel)) he
theorem ai_okA_53 : ai_okA 53 := fun i e he => ai_okM_use ai_okM_17 (m := 53) (a := 0) (n := 39) (by simp) (Nat.zero_le i) (by have := ai_len_lt he; exact Nat.lt_of_lt_of_le this (by decide +kernel)) he
theorem ai_okA_54 : ai_okA 54 := fun i e he => ai_okM_use ai_okM_17 (m := 54) (a := 0) (n := 22) (by simp) (Nat.zero_le i) (by have := ai_len_lt he; exact Nat.lt_of_lt_of_le this (by decide +kernel)) he
theorem ai_okA_55 : ai_okA 55 := fun i e he => ai_okM_use ai_okM_17 (m := 55) (a := 0) (n := 5) (by simp) (Nat.zero_le i) (by have := ai_len_lt he; exact Nat.lt_of_lt_of_le this (by decide +kernel)) he
theorem ai_okA_56 : ai_okA 56 := fun i e he => ai_okM_use ai_okM_17 (m := 56) (a := 0) (n := 5) (by simp) (Nat.zero_le i) (by have := ai_len_lt he; exact Nat.lt_of_lt_of_le this (by decide +kernel)) he
theorem ai_okA_57 : ai_okA 57 := fun i e he => ai_okM_use ai_okM_17 (m := 57) (a := 0) (n := 9) (by simp) (Nat.zero_le i) (by have := ai_len_lt he; exact Nat.lt_of_lt_of_le this (by decide +kernel)) he
theorem ai_okA_58 : ai_okA 58 := fun i e he => ai_okM_use ai_okM_17 (m := 58) (a := 0) (n := 13) (by simp) (Nat.zero_le i) (by have := ai_len_lt he; exact Nat.lt_of_lt_of_le this (by decide +kernel)) he
theorem ai_okA_59 : ai_okA 59 := fun i e he => ai_okM_use ai_okM_17 (m := 59) (a := 0) (n := 5) (by simp) (Nat.zero_le i) (by have := ai_len_lt he; exact Nat.lt_of_lt_of_le this (by decide +kernel)) he
theorem ai_okA_60 : ai_okA 60 := fun i e he => ai_okM_use ai_okM_18 (m := 60) (a := 0) (n := 23) (by simp) (Nat.zero_le i) (by have := ai_len_lt he; exact Nat.lt_of_lt_of_le this (by decide +kernel)) he
theorem ai_okA_61 : ai_okA 61 := fun i e he => ai_okM_use ai_okM_18 (m := 61) (a := 0) (n := 18) (by simp) (Nat.zero_le i) (by have := ai_len_lt he; exact Nat.lt_of_lt_of_le this (by decide +kernel)) he
theorem ai_okA_62 : ai_okA 62 := fun i e he => ai_okM_use ai_okM_18 (m := 62) (a := 0) (n := 5) (by simp) (Nat.zero_le i) (by have := ai_len_lt he; exact Nat.lt_of_lt_of_le this (by decide +kernel)) he
theorem ai_okA_63 : ai_okA 63 := fun i e he => ai_okM_use ai_okM_18 (m := 63) (a := 0) (n := 8) (by simp) (Nat.zero_le i) (by have := ai_len_lt he; exact Nat.lt_of_lt_of_le this (by decide +kernel)) he
theorem ai_okA_64 : ai_okA 64 := fun i e he => ai_okM_use ai_okM_18 (m := 64) (a := 0) (n := 9) (by simp) (Nat.zero_le i) (by have := ai_len_lt he; exact Nat.lt_of_lt_of_le this (by decide +kernel)) he
theorem ai_okA_65 : ai_okA 65 := fun i e he => ai_okM_use ai_okM_18 (m := 65) (a := 0) (n := 13) (by simp) (Nat.zero_le i) (by have := ai_len_lt he; exact Nat.lt_of_lt_of_le this (by decide +kernel)) he
theorem ai_okA_66 : ai_okA 66 := fun i e he => ai_okM_use ai_okM_18 (m := 66) (a := 0) (n := 31) (by simp) (Nat.zero_le i) (by have := ai_len_lt he; exact Nat.lt_of_lt_of_le this (by decide +kernel)) he
theorem ai_okA_67 : ai_okA 67 := fun i e he => ai_okM_use ai_okM_18 (m := 67) (a := 0) (n := 13) (by simp) (Nat.zero_le i) (by have := ai_len_lt he; exact Nat.lt_of_lt_of_le this (by decide +kernel)) he
theorem ai_okA_68 : ai_okA 68 := fun i e he => ai_okM_use ai_okM_19 (m := 68) (a := 0) (n := 10) (by simp) (Nat.zero_le i) (by have := ai_len_lt he; exact Nat.lt_of_lt_of_le this (by decide +kernel)) he
theorem ai_okA_69 : ai_okA 69 := fun i e he => ai_okM_use ai_okM_19 (m := 69) (a := 0) (n := 27) (by simp) (Nat.zero_le i) (by have := ai_len_lt he; exact Nat.lt_of_lt_of_le this (by decide +kernel)) he
theorem ai_okA_70 : ai_okA 70 := fun i e he => ai_okM_use ai_okM_19 (m := 70) (a := 0) (n := 7) (by simp) (Nat.zero_le i) (by have := ai_len_lt he; exact Nat.lt_of_lt_of_le this (by decide +kernel)) he
theorem ai_okA_71 : ai_okA 71 := fun i e he => ai_okM_use ai_okM_19 (m := 71) (a := 0) (n := 21) (by simp) (Nat.zero_le i) (by have := ai_len_lt he; exact Nat.lt_of_lt_of_le this (by decide +kernel)) he
theorem ai_okA_72 : ai_okA 72 := fun i e he => ai_okM_use ai_okM_19 (m := 72) (a := 0) (n := 19) (by simp) (Nat.zero_le i) (by have := ai_len_lt he; exact Nat.lt_of_lt_of_le this (by decide +kernel)) he
theorem ai_okA_73 : ai_okA 73 := fun i e he => ai_okM_use ai_okM_19 (m := 73) (a := 0) (n := 20) (by simp) (Nat.zero_le i) (by have := ai_len_lt he; exact Nat.lt_of_lt_of_le this (by decide +kernel)) he
theorem ai_okA_74 : ai_okA 74 := fun i e he => ai_okM_use ai_okM_20 (m := 74) (a := 0) (n := 33) (by simp) (Nat.zero_le i) (by have := ai_len_lt he; exact Nat.lt_of_lt_of_le this (by decide +kernel)) he
theorem ai_okA_75 : ai_okA 75 := fun i e he => ai_okM_use ai_okM_20 (m := 75) (a := 0) (n := 62) (by simp) (Nat.zero_le i) (by have := ai_len_lt he; exact Nat.lt_of_lt_of_le this (by decide +kernel)) he
theorem ai_okA_76 : ai_okA 76 := fun i e he => ai_okM_use ai_okM_21 (m := 76) (a := 0) (n := 50) (by simp) (Nat.zero_le i) (by have := ai_len_lt he; exact Nat.lt_of_lt_of_le this (by decide +kernel)) he
theorem ai_okA_77 : ai_okA 77 := fun i e he => ai_okM_use ai_okM_21 (m := 77) (a := 0) (n := 54) (by simp) (Nat.zero_le i) (by have := ai_len_lt he; exact Nat.lt_of_lt_of_le this (by decide +kernel)) he
theorem ai_okA_78 : ai_okA 78 := fun i e he => ai_okM_use ai_okM_22 (m := 78) (a := 0) (n := 40) (by simp) (Nat.zero_le i) (by have := ai_len_lt he; exact Nat.lt_of_lt_of_le this (by decide +kernel)) he
theorem ai_okA_79 : ai_okA 79 := fun i e he => ai_okM_use ai_okM_22 (m := 79) (a := 0) (n := 22) (by simp) (Nat.zero_le i) (by have := ai_len_lt he; exact Nat.lt_of_lt_of_le this (by decide +kernel)) he
theorem ai_okA_80 : ai_okA 80 := fun i e he => ai_okM_use ai_okM_22 (m := 80) (a := 0) (n := 49) (by simp) (Nat.zero_le i) (by have := ai_len_lt he; exact Nat.lt_of_lt_of_le this (by decide +kernel)) he
theorem ai_okA_81 : ai_okA 81 := fun i e he => ai_okM_use ai_okM_23 (m := 81) (a := 0) (n := 51) (by simp) (Nat.zero_le i) (by have := ai_len_lt he; exact Nat.lt_of_lt_of_le this (by decide +kernel)) he
theorem ai_okA_82 : ai_okA 82 := fun i e he => ai_okM_use ai_okM_23 (m := 82) (a := 0) (n := 36) (by simp) (Nat.zero_le i) (by have := ai_len_lt he; exact Nat.lt_of_lt_of_le this (by decide +kernel)) he
theorem ai_okA_83 : ai_okA 83 := fun i e he => ai_okM_use ai_okM_24 (m := 83) (a := 0) (n := 52) (by simp) (Nat.zero_le i) (by have := ai_len_lt he; exact Nat.lt_of_lt_of_le this (by decide +kernel)) he
theorem ai_okA_84 : ai_okA 84 := fun i e he => ai_okM_use ai_okM_24 (m := 84) (a := 0) (n := 23) (by simp) (Nat.zero_le i) (by have := ai_len_lt he; exact Nat.lt_of_lt_of_le this (by decide +kernel)) he
theorem ai_okA_85 : ai_okA 85 := fun i e he => ai_okM_use ai_okM_24 (m := 85) (a := 0) (n := 14) (by simp) (Nat.zero_le i) (by have := ai_len_lt he; exact Nat.lt_of_lt_of_le this (by decide +kernel)) he
theorem ai_okA_86 : ai_okA 86 := fun i e he => ai_okM_use ai_okM_24 (m := 86) (a := 0) (n := 22) (by simp) (Nat.zero_le i) (by have := ai_len_lt he; exact Nat.lt_of_lt_of_le this (by decide +kernel)) he
theorem ai_okA_87 : ai_okA 87 := fun i e he => ai_okM_use ai_okM_25 (m := 87) (a := 0) (n := 17) (by simp) (Nat.zero_le i) (by have := ai_len_lt he; exact Nat.lt_of_lt_of_le this (by decide +kernel)) he
theorem ai_okA_88 : ai_okA 88 := fun i e he => ai_okM_use ai_okM_25 (m := 88) (a := 0) (n := 11) (by simp) (Nat.zero_le i) (by have := ai_len_lt he; exact Nat.lt_of_lt_of_le this (by decide +kernel)) he
theorem ai_okA_89 : ai_okA 89 := fun i e he => ai_okM_use ai_okM_25 (m := 89) (a := 0) (n := 10) (by simp) (Nat.zero_le i) (by have := ai_len_lt he; exact Nat.lt_of_lt_of_le this (by decide +kernel)) he
theorem ai_okA_90 : ai_okA 90 := fun i e he => ai_okM_use ai_okM_25 (m := 90) (a := 0) (n := 11) (by simp) (Nat.zero_le i) (by have := ai_len_lt he; exact Nat.lt_of_lt_of_le this (by decide +kernel)) he
theorem ai_okA_91 : ai_okA 91 := fun i e he => ai_okM_use ai_okM_25 (m := 91) (a := 0) (n := 25) (by simp) (Nat.zero_le i) (by have := ai_len_lt he; exact Nat.lt_of_lt_of_le this (by decide +kernel)) he
theorem ai_okA_92 : ai_okA 92 := fun i e he => ai_okM_use ai_okM_25 (m := 92) (a := 0) (n := 26) (by simp) (Nat.zero_le i) (by have := ai_len_lt he; exact Nat.lt_of_lt_of_le this (by decide +kernel)) he
theorem ai_okA_93 : ai_okA 93 := fun i e he => ai_okM_use ai_okM_25 (m := 93) (a := 0) (n := 10) (by simp) (Nat.zero_le i) (by have := ai_len_lt he; exact Nat.lt_of_lt_of_le this (by decide +kernel)) he
theorem ai_okA_94 : ai_okA 94 := fun i e he => ai_okM_use ai_okM_25 (m := 94) (a := 0) (n := 5) (by simp) (Nat.zero_le i) (by have := ai_len_lt he; exact Nat.lt_of_lt_of_le this (by decide +kernel)) he
theorem ai_okA_95 : ai_okA 95 := fun i e he => ai_okM_use ai_okM_26 (m := 95) (a := 0) (n := 9) (by simp) (Nat.zero_le i) (by have := ai_len_lt he; exact Nat.lt_of_lt_of_le this (by decide +kernel)) he
theorem ai_okA_96 : ai_okA 96 := fun i e he => ai_okM_use ai_okM_26 (m := 96) (a := 0) (n := 9) (by simp) (Nat.zero_le i) (by have := ai_len_lt he; exact Nat.lt_of_lt_of_le this (by decide +kernel)) he
theorem ai_okA_97 : ai_okA 97 := fun i e he => ai_okM_use ai_okM_26 (m := 97) (a := 0) (n := 9) (by simp) (Nat.zero_le i) (by have := ai_len_lt he; exact Nat.lt_of_lt_of_le this (by decide +kernel)) he
theorem ai_okA_98 : ai_okA 98 := fun i e he => ai_okM_use ai_okM_26 (m := 98) (a := 0) (n := 28) (by simp) (Nat.zero_le i) (by have := ai_len_lt he; exact Nat.lt_of_lt_of_le this (by decide +kernel)) he
theorem ai_okA_99 : ai_okA 99 := fun i e he => ai_okM_use ai_okM_26 (m := 99) (a := 0) (n := 17) (by simp) (Nat.zero_le i) (by have := ai_len_lt he; exact Nat.lt_of_lt_of_le this (by decide +kernel)) he
theorem ai_okA_100 : ai_okA 100 := fun i e he => ai_okM_use ai_okM_26 (m := 100) (a := 0) (n := 35) (by simp) (Nat.zero_le i) (by have := ai_len_lt he; exact Nat.lt_of_lt_of_le this (by decide +kernel)) he
theorem ai_okA_101 : ai_okA 101 := fun i e he => ai_okM_use ai_okM_27 (m := 101) (a := 0) (n := 32) (by simp) (Nat.zero_le i) (by have := ai_len_lt he; exact Nat.lt_of_lt_of_le this (by decide +kernel)) he
theorem ai_okA_102 : ai_okA 102 := fun i e he => ai_okM_use ai_okM_27 (m := 102) (a := 0) (n := 27) (by simp) (Nat.zero_le i) (by have := ai_len_lt he; exact Nat.lt_of_lt_of_le this (by decide +kernel)) he
theorem ai_okA_103 : ai_okA 103 := fun i e he => ai_okM_use ai_okM_27 (m := 103) (a := 0) (n := 28) (by simp) (Nat.zero_le i) (by have := ai_len_lt he; exact Nat.lt_of_lt_of_le this (by decide +kernel)) he
theorem ai_okA_104 : ai_okA 104 := fun i e he => ai_okM_use ai_okM_27 (m := 104) (a := 0) (n := 15) (by simp) (Nat.zero_le i) (by have := ai_len_lt he; exact Nat.lt_of_lt_of_le this (by decide +kernel)) he
theorem ai_okA_105 : ai_okA 105 := fun i e he => ai_okM_use ai_okM_27 (m := 105) (a := 0) (n := 5) (by simp) (Nat.zero_le i) (by have := ai_len_lt he; exact Nat.lt_of_lt_of_le this (by decide +kernel)) he
theorem ai_okA_106 : ai_okA 106 := fun i e he => ai_okM_use ai_okM_27 (m := 106) (a := 0) (n := 13) (by simp) (Nat.zero_le i) (by have := ai_len_lt he; exact Nat.lt_of_lt_of_le this (by decide +kernel)) he
theorem ai_okA_107 : ai_okA 107 := fun i e he => ai_okM_use ai_okM_28 (m := 107) (a := 0) (n := 17) (by simp) (Nat.zero_le i) (by have := ai_len_lt he; exact Nat.lt_of_lt_of_le this (by decide +kernel)) he
theorem ai_okA_108 : ai_okA 108 := fun i e he => ai_okM_use ai_okM_28 (m := 108) (a := 0) (n := 29) (by simp) (Nat.zero_le i) (by have := ai_len_lt he; exact Nat.lt_of_lt_of_le this (by decide +kernel)) he
theorem ai_okA_109 : ai_okA 109 := fun i e he => ai_okM_use ai_okM_28 (m := 109) (a := 0) (n := 49) (by simp) (Nat.zero_le i) (by have := ai_len_lt he; exact Nat.lt_of_lt_of_le this (by decide +kernel)) he
theorem ai_okA_110 : ai_okA 110 := fun i e he => ai_okM_use ai_okM_29 (m := 110) (a := 0) (n := 47) (by simp) (Nat.zero_le i) (by have := ai_len_lt he; exact Nat.lt_of_lt_of_le this (by decide +kernel)) he
theorem ai_okA_111 : ai_okA 111 := fun i e he => ai_okM_use ai_okM_29 (m := 111) (a := 0) (n := 23) (by simp) (Nat.zero_le i) (by have := ai_len_lt he; exact Nat.lt_of_lt_of_le this (by decide +kernel)) he
theorem ai_okA_112 : ai_okA 112 := fun i e he => ai_okM_use ai_okM_29 (m := 112) (a := 0) (n := 28) (by simp) (Nat.zero_le i) (by have := ai_len_lt he; exact Nat.lt_of_lt_of_le this (by decide +kernel)) he
theorem ai_okA_113 : ai_okA 113 := fun i e he => ai_okM_use ai_okM_29 (m := 113) (a := 0) (n := 6) (by simp) (Nat.zero_le i) (by have := ai_len_lt he; exact Nat.lt_of_lt_of_le this (by decide +kernel)) he
theorem ai_okA_114 : ai_okA 114 := fun i e he => ai_okM_use ai_okM_30 (m := 114) (a := 0) (n := 33) (by simp) (Nat.zero_le i) (by have := ai_len_lt he; exact Nat.lt_of_lt_of_le this (by decide +kernel)) he
theorem ai_okA_115 : ai_okA 115 := fun i e he => ai_okM_use ai_okM_30 (m := 115) (a := 0) (n := 31) (by simp) (Nat.zero_le i) (by have := ai_len_lt he; exact Nat.lt_of_lt_of_le this (by decide +kernel)) he
theorem ai_okA_116 : ai_okA 116 := fun i e he => ai_okM_use ai_okM_30 (m := 116) (a := 0) (n := 10) (by simp) (Nat.zero_le i) (by have := ai_len_lt he; exact Nat.lt_of_lt_of_le this (by decide +kernel)) he
theorem ai_okA_117 : ai_okA 117 := fun i e he => ai_okM_use ai_okM_31 (m := 117) (a := 0) (n := 48) (by simp) (Nat.zero_le i) (by have := ai_len_lt he; exact Nat.lt_of_lt_of_le this (by decide +kernel)) he
theorem ai_okA_118 : ai_okA 118 := fun i e he => ai_okM_use ai_okM_31 (m := 118) (a := 0) (n := 42) (by simp) (Nat.zero_le i) (by have := ai_len_lt he; exact Nat.lt_of_lt_of_le this (by decide +kernel)) he
theorem ai_okA_119 : ai_okA 119 := fun i e he => ai_okM_use ai_okM_31 (m := 119) (a := 0) (n := 25) (by simp) (Nat.zero_le i) (by have := ai_len_lt he; exact Nat.lt_of_lt_of_le this (by decide +kernel)) he
theorem ai_okA_120 : ai_okA 120 := fun i e he => ai_okM_use ai_okM_32 (m := 120) (a := 0) (n := 43) (by simp) (Nat.zero_le i) (by have := ai_len_lt he; exact Nat.lt_of_lt_of_le this (by decide +kernel)) he
theorem ai_okA_121 : ai_okA 121 := fun i e he => ai_okM_use ai_okM_32 (m := 121) (a := 0) (n := 39) (by simp) (Nat.zero_le i) (by have := ai_len_lt he; exact Nat.lt_of_lt_of_le this (by decide +kernel)) he
theorem ai_okA_122 : ai_okA 122 := fun i e he => ai_okM_use ai_okM_32 (m := 122) (a := 0) (n := 38) (by simp) (Nat.zero_le i) (by have := ai_len_lt he; exact Nat.lt_of_lt_of_le this (by decide +kernel)) he
theorem ai_okA_123 : ai_okA 123 := fun i e he => ai_okM_use ai_okM_33 (m := 123) (a := 0) (n := 29) (by simp) (Nat.zero_le i) (by have := ai_len_lt he; exact Nat.lt_of_lt_of_le this (by decide +kernel)) he
theorem ai_okA_124 : ai_okA 124 := fun i e he => ai_okM_use ai_okM_33 (m := 124) (a := 0) (n := 11) (by simp) (Nat.zero_le i) (by have := ai_len_lt he; exact Nat.lt_of_lt_of_le this (by decide +kernel)) he
theorem ai_okA_125 : ai_okA 125 := fun i e he => ai_okM_use ai_okM_33 (m := 125) (a := 0) (n := 20) (by simp) (Nat.zero_le i) (by have := ai_len_lt he; exact Nat.lt_of_lt_of_le this (by decide +kernel)) he
theorem ai_okA_126 : ai_okA 126 := fun i e he => ai_okM_use ai_okM_34 (m := 126) (a := 0) (n := 146) (by simp) (Nat.zero_le i) (by have := ai_len_lt he; exact Nat.lt_of_lt_of_le this (by decide +kernel)) he
theorem ai_okA_127 : ai_okA 127 := fun i e he => ai_okM_use ai_okM_35 (m := 127) (a := 0) (n := 3) (by simp) (Nat.zero_le i) (by have := ai_len_lt he; exact Nat.lt_of_lt_of_le this (by decide +kernel)) he
theorem ai_okA_128 : ai_okA 128 := fun i e he => ai_okM_use ai_okM_35 (m := 128) (a := 0) (n := 5) (by simp) (Nat.zero_le i) (by have := ai_len_lt he; exact Nat.lt_of_lt_of_le this (by decide +kernel)) he
theorem ai_okA_129 : ai_okA 129 := fun i e he => ai_okM_use ai_okM_35 (m := 129) (a := 0) (n := 10) (by simp) (Nat.zero_le i) (by have := ai_len_lt he; exact Nat.lt_of_lt_of_le this (by decide +kernel)) he
theorem ai_okA_130 : ai_okA 130 := fun i e he => ai_okM_use ai_okM_35 (m := 130) (a := 0) (n := 37) (by simp) (Nat.zero_le i) (by have := ai_len_lt he; exact Nat.lt_of_lt_of_le this (by decide +kernel)) he
theorem ai_okA_131 : ai_okA 131 := fun i e he => ai_okM_use ai_okM_35 (m := 131) (a := 0) (n := 35) (by simp) (Nat.zero_le i) (by have := ai_len_lt he; exact Nat.lt_of_lt_of_le this (by decide +kernel)) he
theorem ai_okA_132 : ai_okA 132 := fun i e he => ai_okM_use ai_okM_36 (m := 132) (a := 0) (n := 86) (by simp) (Nat.zero_le i) (by have := ai_len_lt he; exact Nat.lt_of_lt_of_le this (by decide +kernel)) he
theorem ai_okA_133 : ai_okA 133 := fun i e he => ai_okM_use ai_okM_36 (m := 133) (a := 0) (n := 23) (by simp) (Nat.zero_le i) (by have := ai_len_lt he; exact Nat.lt_of_lt_of_le this (by decide +kernel)) he
theorem ai_okA_134 : ai_okA 134 := fun i e he => ai_okM_use ai_okM_36 (m := 134) (a := 0) (n := 7) (by simp) (Nat.zero_le i) (by have := ai_len_lt he; exact Nat.lt_of_lt_of_le this (by decide +kernel)) he
theorem ai_okA_135 : ai_okA 135 := fun i e he => ai_okM_use ai_okM_37 (m := 135) (a := 0) (n := 13) (by simp) (Nat.zero_le i) (by have := ai_len_lt he; exact Nat.lt_of_lt_of_le this (by decide +kernel)) he
theorem ai_okA_136 : ai_okA 136 := fun i e he => ai_okM_use ai_okM_37 (m := 136) (a := 0) (n := 19) (by simp) (Nat.zero_le i) (by have := ai_len_lt he; exact Nat.lt_of_lt_of_le this (by decide +kernel)) he
theorem ai_okA_137 : ai_okA 137 := fun i e he => ai_okM_use ai_okM_37 (m := 137) (a := 0) (n := 12) (by simp) (Nat.zero_le i) (by have := ai_len_lt he; exact Nat.lt_of_lt_of_le this (by decide +kernel)) he
theorem ai_okA_138 : ai_okA 138 := fun i e he => ai_okM_use ai_okM_37 (m := 138) (a := 0) (n := 12) (by simp) (Nat.zero_le i) (by have := ai_len_lt he; exact Nat.lt_of_lt_of_le this (by decide +kernel)) he
theorem ai_okA_139 : ai_okA 139 := fun i e he => ai_okM_use ai_okM_37 (m := 139) (a := 0) (n := 11) (by simp) (Nat.zero_le i) (by have := ai_len_lt he; exact Nat.lt_of_lt_of_le this (by decide +kernel)) he
theorem ai_okA_140 : ai_okA 140 := fun i e he => ai_okM_use ai_okM_37 (m := 140) (a := 0) (n := 34) (by simp) (Nat.zero_le i) (by have := ai_len_lt he; exact Nat.lt_of_lt_of_le this (by decide +kernel)) he
theorem ai_okA_141 : ai_okA 141 := fun i e he => ai_okM_use ai_okM_38 (m := 141) (a := 0) (n := 67) (by simp) (Nat.zero_le i) (by have := ai_len_lt he; exact Nat.lt_of_lt_of_le this (by decide +kernel)) he
theorem ai_okA_142 : ai_okA 142 := fun i e he => ai_okM_use ai_okM_38 (m := 142) (a := 0) (n := 41) (by simp) (Nat.zero_le i) (by have := ai_len_lt he; exact Nat.lt_of_lt_of_le this (by decide +kernel)) he
theorem ai_okA_143 : ai_okA 143 := fun i e he => ai_okM_use ai_okM_39 (m := 143) (a := 0) (n := 111) (by simp) (Nat.zero_le i) (by have := ai_len_lt he; exact Nat.lt_of_lt_of_le this (by decide +kernel)) he
theorem ai_okA_144 : ai_okA 144 := fun i e he => ai_okM_use ai_okM_40 (m := 144) (a := 0) (n := 68) (by simp) (Nat.zero_le i) (by have := ai_len_lt he; exact Nat.lt_of_lt_of_le this (by decide +kernel)) he
theorem ai_okA_145 : ai_okA 145 := fun i e he => ai_okM_use ai_okM_41 (m := 145) (a := 0) (n := 84) (by simp) (Nat.zero_le i) (by have := ai_len_lt he; exact Nat.lt_of_lt_of_le this (by decide +kernel)) he
theorem ai_okA_146 : ai_okA 146 := fun i e he => ai_okM_use ai_okM_42 (m := 146) (a := 0) (n := 65) (by simp) (Nat.zero_le i) (by have := ai_len_lt he; exact Nat.lt_of_lt_of_le this (by decide +kernel)) he
theorem ai_okA_147 : ai_okA 147 := fun i e he => ai_okM_use ai_okM_43 (m := 147) (a := 0) (n := 91) (by simp) (Nat.zero_le i) (by have := ai_len_lt he; exact Nat.lt_of_lt_of_le this (by decide +kernel)) he
theorem ai_okA_148 : ai_okA 148 := fun i e he => ai_okM_use ai_okM_44 (m := 148) (a := 0) (n := 138) (by simp) (Nat.zero_le i) (by have := ai_len_lt he; exact Nat.lt_of_lt_of_le this (by decide +kernel)) he
theorem ai_okA_149 : ai_okA 149 := fun i e he => ai_okM_use ai_okM_45 (m := 149) (a := 0) (n := 6) (by simp) (Nat.zero_le i) (by have := ai_len_lt he; exact Nat.lt_of_lt_of_le this (by decide +kernel)) he
theorem ai_okA_150 : ai_okA 150 := fun i e he => ai_okM_use ai_okM_45 (m := 150) (a := 0) (n := 50) (by simp) (Nat.zero_le i) (by have := ai_len_lt he; exact Nat.lt_of_lt_of_le this (by decide +kernel)) he
theorem ai_okA_151 : ai_okA 151 := fun i e he => ai_okM_use ai_okM_45 (m := 151) (a := 0) (n := 48) (by simp) (Nat.zero_le i) (by have := ai_len_lt he; exact Nat.lt_of_lt_of_le this (by decide +kernel)) he
theorem ai_okA_152 : ai_okA 152 := fun i e he => ai_okM_use ai_okM_46 (m := 152) (a := 0) (n := 26) (by simp) (Nat.zero_le i) (by have := ai_len_lt he; exact Nat.lt_of_lt_of_le this (by decide +kernel)) he
theorem ai_okA_153 : ai_okA 153 := fun i e he => ai_okM_use ai_okM_46 (m := 153) (a := 0) (n := 57) (by simp) (Nat.zero_le i) (by have := ai_len_lt he; exact Nat.lt_of_lt_of_le this (by decide +kernel)) he
theorem ai_okA_154 : ai_okA 154 := fun i e he => ai_okM_use ai_okM_47 (m := 154) (a := 0) (n := 58) (by simp) (Nat.zero_le i) (by have := ai_len_lt he; exact Nat.lt_of_lt_of_le this (by decide +kernel)) he
theorem ai_okA_155 : ai_okA 155 := fun i e he => ai_okM_use ai_okM_47 (m := 155) (a := 0) (n := 33) (by simp) (Nat.zero_le i) (by have := ai_len_lt he; exact Nat.lt_of_lt_of_le this (by decide +kernel)) he
theorem ai_okA_156 : ai_okA 156 := fun i e he => ai_okM_use ai_okM_47 (m := 156) (a := 0) (n := 22) (by simp) (Nat.zero_le i) (by have := ai_len_lt he; exact Nat.lt_of_lt_of_le this (by decide +kernel)) he
theorem ai_okA_157 : ai_okA 157 := fun i e he => ai_okM_use ai_okM_48 (m := 157) (a := 0) (n := 26) (by simp) (Nat.zero_le i) (by have := ai_len_lt he; exact Nat.lt_of_lt_of_le this (by decide +kernel)) he
theorem ai_okA_158 : ai_okA 158 := fun i e he => ai_okM_use ai_okM_48 (m := 158) (a := 0) (n := 22) (by simp) (Nat.zero_le i) (by have := ai_len_lt he; exact Nat.lt_of_lt_of_le this (by decide +kernel)) he
theorem ai_okA_159 : ai_okA 159 := fun i e he => ai_okM_use ai_okM_48 (m := 159) (a := 0) (n := 31) (by simp) (Nat.zero_le i) (by have := ai_len_lt he; exact Nat.lt_of_lt_of_le this (by decide +kernel)) he
theorem ai_okA_160 : ai_okA 160 := fun i e he => ai_okM_use ai_okM_48 (m := 160) (a := 0) (n := 25) (by simp) (Nat.zero_le i) (by have := ai_len_lt he; exact Nat.lt_of_lt_of_le this (by decide +kernel)) he
theorem ai_okA_161 : ai_okA 161 := fun i e he => ai_okM_use ai_okM_49 (m := 161) (a := 0) (n := 87) (by simp) (Nat.zero_le i) (by have := ai_len_lt he; exact Nat.lt_of_lt_of_le this (by decide +kernel)) he
theorem ai_okA_162 : ai_okA 162 := fun i e he => ai_okM_use ai_okM_50 (m := 162) (a := 0) (n := 51) (by simp) (Nat.zero_le i) (by have := ai_len_lt he; exact Nat.lt_of_lt_of_le this (by decide +kernel)) he
theorem ai_okA_163 : ai_okA 163 := fun i e he => ai_okM_use ai_okM_51 (m := 163) (a := 0) (n := 126) (by simp) (Nat.zero_le i) (by have := ai_len_lt he; exact Nat.lt_of_lt_of_le this (by decide +kernel)) he
theorem ai_okA_164 : ai_okA 164 := fun i e he => ai_okM_use ai_okM_52 (m := 164) (a := 0) (n := 95) (by simp) (Nat.zero_le i) (by have := ai_len_lt he; exact Nat.lt_of_lt_of_le this (by decide +kernel)) he
theorem ai_okA_165 : ai_okA 165 := fun i e he => ai_okM_use ai_okM_53 (m := 165) (a := 0) (n := 90) (by simp) (Nat.zero_le i) (by have := ai_len_lt he; exact Nat.lt_of_lt_of_le this (by decide +kernel)) he
theorem ai_okA_166 : ai_okA 166 := fun i e he => ai_okM_use ai_okM_53 (m := 166) (a := 0) (n := 27) (by simp) (Nat.zero_le i) (by have := ai_len_lt he; exact Nat.lt_of_lt_of_le this (by decide +kernel)) he
theorem ai_okA_167 : ai_okA 167 := fun i e he => ai_okM_use ai_okM_54 (m := 167) (a := 0) (n := 143) (by simp) (Nat.zero_le i) (by have := ai_len_lt he; exact Nat.lt_of_lt_of_le this (by decide +kernel)) he
theorem ai_okA_168 : ai_okA 168 := fun i e he => ai_okM_use ai_okM_55 (m := 168) (a := 0) (n := 63) (by simp) (Nat.zero_le i) (by have := ai_len_lt he; exact Nat.lt_of_lt_of_le this (by decide +kernel)) he
theorem ai_okA_169 : ai_okA 169 := fun i e he => ai_okM_use ai_okM_55 (m := 169) (a := 0) (n := 24) (by simp) (Nat.zero_le i) (by have := ai_len_lt he; exact Nat.lt_of_lt_of_le this (by decide +kernel)) he
theorem ai_okA_170 : ai_okA 170 := fun i e he => ai_okM_use ai_okM_56 (m := 170) (a := 0) (n := 63) (by simp) (Nat.zero_le i) (by have := ai_len_lt he; exact Nat.lt_of_lt_of_le this (by decide +kernel)) he
theorem ai_okA_171 : ai_okA 171 := fun i e he => ai_okM_use ai_okM_56 (m := 171) (a := 0) (n := 56) (by simp) (Nat.zero_le i) (by have := ai_len_lt he; exact Nat.lt_of_lt_of_le this (by decide +kernel)) he
theorem ai_okA_172 : ai_okA 172 := fun i e he => ai_okM_use ai_okM_57 (m := 172) (a := 0) (n := 71) (by simp) (Nat.zero_le i) (by have := ai_len_lt he; exact Nat.lt_of_lt_of_le this (by decide +kernel)) he
theorem ai_okA_173 : ai_okA 173 := fun i e he => ai_okM_use ai_okM_57 (m := 173) (a := 0) (n := 15) (by simp) (Nat.zero_le i) (by have := ai_len_lt he; exact Nat.lt_of_lt_of_le this (by decide +kernel)) he
theorem ai_okA_174 : ai_okA 174 := fun i e he => ai_okM_use ai_okM_57 (m := 174) (a := 0) (n := 19) (by simp) (Nat.zero_le i) (by have := ai_len_lt he; exact Nat.lt_of_lt_of_le this (by decide +kernel)) he
theorem ai_okA_175 : ai_okA 175 := fun i e he => ai_okM_use ai_okM_58 (m := 175) (a := 0) (n := 40) (by simp) (Nat.zero_le i) (by have := ai_len_lt he; exact Nat.lt_of_lt_of_le this (by decide +kernel)) he
theorem ai_okA_176 : ai_okA 176 := fun i e he => ai_okM_use ai_okM_58 (m := 176) (a := 0) (n := 21) (by simp) (Nat.zero_le i) (by have := ai_len_lt he; exact Nat.lt_of_lt_of_le this (by decide +kernel)) he
theorem ai_okA_177 : ai_okA 177 := fun i e he => ai_okM_use ai_okM_58 (m := 177) (a := 0) (n := 18) (by simp) (Nat.zero_le i) (by have := ai_len_lt he; exact Nat.lt_of_lt_of_le this (by decide +kernel)) he
theorem ai_okA_178 : ai_okA 178 := fun i e he => ai_okM_use ai_okM_59 (m := 178) (a := 0) (n := 73) (by simp) (Nat.zero_le i) (by have := ai_len_lt he; exact Nat.lt_of_lt_of_le this (by decide +kernel)) he
theorem ai_okA_179 : ai_okA 179 := fun i e he => ai_okM_use ai_okM_59 (m := 179) (a := 0) (n := 38) (by simp) (Nat.zero_le i) (by have := ai_len_lt he; exact Nat.lt_of_lt_of_le this (by decide +kernel)) he
theorem ai_okA_180 : ai_okA 180 := fun i e he => ai_okM_use ai_okM_60 (m := 180) (a := 0) (n := 39) (by simp) (Nat.zero_le i) (by have := ai_len_lt he; exact Nat.lt_of_lt_of_le this (by decide +kernel)) he
theorem ai_okA_181 : ai_okA 181 := fun i e he => ai_okM_use ai_okM_60 (m := 181) (a := 0) (n := 66) (by simp) (Nat.zero_le i) (by have := ai_len_lt he; exact Nat.lt_of_lt_of_le this (by decide +kernel)) he
theorem ai_okA_182 : ai_okA 182 := fun i e he => ai_okM_use ai_okM_61 (m := 182) (a := 0) (n := 104) (by simp) (Nat.zero_le i) (by have := ai_len_lt he; exact Nat.lt_of_lt_of_le this (by decide +kernel)) he
theorem ai_okA_183 : ai_okA 183 := fun i e he => ai_okM_use ai_okM_62 (m := 183) (a := 0) (n := 41) (by simp) (Nat.zero_le i) (by have := ai_len_lt he; exact Nat.lt_of_lt_of_le this (by decide +kernel)) he
theorem ai_okA_184 : ai_okA 184 := fun i e he => ai_okM_use ai_okM_62 (m := 184) (a := 0) (n := 38) (by simp) (Nat.zero_le i) (by have := ai_len_lt he; exact Nat.lt_of_lt_of_le this (by decide +kernel)) he
theorem ai_okA_185 : ai_okA 185 := fun i e he => ai_okM_use ai_okM_62 (m := 185) (a := 0) (n := 13) (by simp) (Nat.zero_le i) (by have := ai_len_lt he; exact Nat.lt_of_lt_of_le this (by decide +kernel)) he
theorem ai_okA_186 : ai_okA 186 := fun i e he => ai_okM_use ai_okM_63 (m := 186) (a := 0) (n := 35) (by simp) (Nat.zero_le i) (by have := ai_len_lt he; exact Nat.lt_of_lt_of_le this (by decide +kernel)) he
theorem ai_okA_187 : ai_okA 187 := fun i e he => ai_okM_use ai_okM_63 (m := 187) (a := 0) (n := 80) (by simp) (Nat.zero_le i) (by have := ai_len_lt he; exact Nat.lt_of_lt_of_le this (by decide +kernel)) he
theorem ai_okA_188 : ai_okA 188 := fun i e he => ai_okM_use ai_okM_64 (m := 188) (a := 0) (n := 70) (by simp) (Nat.zero_le i) (by have := ai_len_lt he; exact Nat.lt_of_lt_of_le this (by decide +kernel)) he
theorem ai_okA_189 : ai_okA 189 := fun i e he => ai_okM_use ai_okM_65 (m := 189) (a := 0) (n := 122) (by simp) (Nat.zero_le i) (by have := ai_len_lt he; exact Nat.lt_of_lt_of_le this (by decide +kernel)) he
theorem ai_okA_190 : ai_okA 190 := fun i e he => ai_okM_use ai_okM_66 (m := 190) (a := 0) (n := 22) (by simp) (Nat.zero_le i) (by have := ai_len_lt he; exact Nat.lt_of_lt_of_le this (by decide +kernel)) he
theorem ai_okA_191 : ai_okA 191 := fun i e he => ai_okM_use ai_okM_66 (m := 191) (a := 0) (n := 12) (by simp) (Nat.zero_le i) (by have := ai_len_lt he; exact Nat.lt_of_lt_of_le this (by decide +kernel)) he
theorem ai_okA_192 : ai_okA 192 := fun i e he => ai_okM_use ai_okM_66 (m := 192) (a := 0) (n := 19) (by simp) (Nat.zero_le i) (by have := ai_len_lt he; exact Nat.lt_of_lt_of_le this (by decide +kernel)) he
theorem ai_okA_193 : ai_okA 193 := fun i e he => ai_okM_use ai_okM_66 (m := 193) (a := 0) (n := 12) (by simp) (Nat.zero_le i) (by have := ai_len_lt he; exact Nat.lt_of_lt_of_le this (by decide +kernel)) he
theorem ai_okA_194 : ai_okA 194 := fun i e he => ai_okM_use ai_okM_66 (m := 194) (a := 0) (n := 16) (by simp) (Nat.zero_le i) (by have := ai_len_lt he; exact Nat.lt_of_lt_of_le this (by decide +kernel)) he
theorem ai_okA_195 : ai_okA 195 := fun i e he => ai_okM_use ai_okM_66 (m := 195) (a := 0) (n := 19) (by simp) (Nat.zero_le i) (by have := ai_len_lt he; exact Nat.lt_of_lt_of_le this (by decide +kernel)) he
theorem ai_okA_196 : ai_okA 196 := fun i e he => ai_okM_use ai_okM_66 (m := 196) (a := 0) (n := 13) (by simp) (Nat.zero_le i) (by have := ai_len_lt he; exact Nat.lt_of_lt_of_le this (by decide +kernel)) he
theorem ai_okA_197 : ai_okA 197 := fun i e he => ai_okM_use ai_okM_67 (m := 197) (a := 0) (n := 14) (by simp) (Nat.zero_le i) (by have := ai_len_lt he; exact Nat.lt_of_lt_of_le this (by decide +kernel)) he
theorem ai_okA_198 : ai_okA 198 := fun i e he => ai_okM_use ai_okM_67 (m := 198) (a := 0) (n := 18) (by simp) (Nat.zero_le i) (by have := ai_len_lt he; exact Nat.lt_of_lt_of_le this (by decide +kernel)) he
theorem ai_okA_199 : ai_okA 199 := fun i e he => ai_okM_use ai_okM_67 (m := 199) (a := 0) (n := 12) (by simp) (Nat.zero_le i) (by have := ai_len_lt he; exact Nat.lt_of_lt_of_le this (by decide +kernel)) he
theorem ai_okA_200 : ai_okA 200 := fun i e he => ai_okM_use ai_okM_67 (m := 200) (a := 0) (n := 12) (by simp) (Nat.zero_le i) (by have := ai_len_lt he; exact Nat.lt_of_lt_of_le this (by decide +kernel)) he
theorem ai_okA_201 : ai_okA 201 := fun i e he => ai_okM_use ai_okM_67 (m := 201) (a := 0) (n := 12) (by simp) (Nat.zero_le i) (by have := ai_len_lt he; exact Nat.lt_of_lt_of_le this (by decide +kernel)) he
theorem ai_okA_202 : ai_okA 202 := fun i e he => ai_okM_use ai_okM_67 (m := 202) (a := 0) (n := 17) (by simp) (Nat.zero_le i) (by have := ai_len_lt he; exact Nat.lt_of_lt_of_le this (by decide +kernel)) he
theorem ai_okA_203 : ai_okA 203 := fun i e he => ai_okM_use ai_okM_67 (m := 203) (a := 0) (n := 17) (by simp) (Nat.zero_le i) (by have := ai_len_lt he; exact Nat.lt_of_lt_of_le this (by decide +kernel)) he
theorem ai_okA_204 : ai_okA 204 := fun i e he => ai_okM_use ai_okM_67 (m := 204) (a := 0) (n := 16) (by simp) (Nat.zero_le i) (by have := ai_len_lt he; exact Nat.lt_of_lt_of_le this (by decide +kernel)) he
theorem ai_okA_205 : ai_okA 205 := fun i e he => ai_okM_use ai_okM_68 (m := 205) (a := 0) (n := 13) (by simp) (Nat.zero_le i) (by have := ai_len_lt he; exact Nat.lt_of_lt_of_le this (by decide +kernel)) he
theorem ai_okA_206 : ai_okA 206 := by
  intro i e he
  have hl : i < 676 := Nat.lt_of_lt_of_le (ai_len_lt he) (by decide +kernel)
  by_cases h69 : i < 60
  · exact ai_okM_use ai_okM_69 (m := 206) (a := 0) (n := 60) (by simp) (by omega) (by omega) he
  by_cases h70 : i < 120
  · exact ai_okM_use ai_okM_70 (m := 206) (a := 60) (n := 60) (by simp) (by omega) (by omega) he
  by_cases h71 : i < 180
  · exact ai_okM_use ai_okM_71 (m := 206) (a := 120) (n := 60) (by simp) (by omega) (by omega) he
  by_cases h72 : i < 240
  · exact ai_okM_use ai_okM_72 (m := 206) (a := 180) (n := 60) (by simp) (by omega) (by omega) he
  by_cases h73 : i < 300
  · exact ai_okM_use ai_okM_73 (m := 206) (a := 240) (n := 60) (by simp) (by omega) (by omega) he
  by_cases h74 : i < 360
  · exact ai_okM_use ai_okM_74 (m := 206) (a := 300) (n := 60) (by simp) (by omega) (by omega) he
  by_cases h75 : i < 420
  · exact ai_okM_use ai_okM_75 (m := 206) (a := 360) (n := 60) (by simp) (by omega) (by omega) he
  by_cases h76 : i < 480
  · exact ai_okM_use ai_okM_76 (m := 206) (a := 420) (n := 60) (by simp) (by omega) (by omega) he
  by_cases h77 : i < 540
  · exact ai_okM_use ai_okM_77 (m := 206) (a := 480) (n := 60) (by simp) (by omega) (by omega) he
  by_cases h78 : i < 600
  · exact ai_okM_use ai_okM_78 (m := 206) (a := 540) (n := 60) (by simp) (by omega) (by omega) he
  by_cases h79 : i < 660
  · exact ai_okM_use ai_okM_79 (m := 206) (a := 600) (n := 60) (by simp) (by omega) (by omega) he
  by_cases h80 : i < 676
  · exact ai_okM_use ai_okM_80 (m := 206) (a := 660) (n := 16) (by simp) (by omega) (by omega) he
  omega
theorem ai_ops_lt {m i : Nat} {e : ai_E} (h : ai_nth (ai_ops m) i = some e) : m < 207 := by
  by_cases hm : m < 207
  · exact hm
  · exfalso
    have h1 : ai_ops m = [] := by
      unfold ai_ops ai_gd
      rw [ai_nth_eq, List.getElem?_eq_none_iff.mpr (by show 207 ≤ m; omega)]
    rw [h1] at h
    simp [ai_nth] at h
theorem ai_okA_all {m : Nat} (h : m < 207) : ai_okA m := by
  by_cases c0_207 : m < 103
  · by_cases c0_103 : m < 51
    · by_cases c0_51 : m < 25
      · by_cases c0_25 : m < 12
        · by_cases c0_12 : m < 6
          · by_cases c0_6 : m < 3
            · by_cases c0_3 : m < 1
              · have e : m = 0 := by omega
                subst e
                exact ai_okA_0
              · by_cases c1_3 : m < 2
                · have e : m = 1 := by omega
                  subst e
                  exact ai_okA_1
                · have e : m = 2 := by omega
                  subst e
                  exact ai_okA_2
            · by_cases c3_6 : m < 4
              · have e : m = 3 := by omega
                subst e
                exact ai_okA_3
              · by_cases c4_6 : m < 5
                · have e : m = 4 := by omega
                  subst e
                  exact ai_okA_4
                · have e : m = 5 := by omega
                  subst e
                  exact ai_okA_5
          · by_cases c6_12 : m < 9
            · by_cases c6_9 : m < 7
              · have e : m = 6 := by omega
                subst e
                exact ai_okA_6
              · by_cases c7_9 : m < 8
                · have e : m = 7 := by omega
                  subst e
                  exact ai_okA_7
                · have e : m = 8 := by omega
                  subst e
                  exact ai_okA_8
            · by_cases c9_12 : m < 10
              · have e : m = 9 := by omega
                subst e
                exact ai_okA_9
              · by_cases c10_12 : m < 11
                · have e : m = 10 := by omega
                  subst e
                  exact ai_okA_10
                · have e : m = 11 := by omega
                  subst e
                  exact ai_okA_11
        · by_cases c12_25 : m < 18
          · by_cases c12_18 : m < 15
            · by_cases c12_15 : m < 13
              · have e : m = 12 := by omega
                subst e
                exact ai_okA_12
              · by_cases c13_15 : m < 14
                · have e : m = 13 := by omega
                  subst e
                  exact ai_okA_13
                · have e : m = 14 := by omega
                  subst e
                  exact ai_okA_14
            · by_cases c15_18 : m < 16
              · have e : m = 15 := by omega
                subst e
                exact ai_okA_15
              · by_cases c16_18 : m < 17
                · have e : m = 16 := by omega
                  subst e
                  exact ai_okA_16
                · have e : m = 17 := by omega
                  subst e
                  exact ai_okA_17
          · by_cases c18_25 : m < 21
            · by_cases c18_21 : m < 19
              · have e : m = 18 := by omega
                subst e
                exact ai_okA_18
              · by_cases c19_21 : m < 20
                · have e : m = 19 := by omega
                  subst e
                  exact ai_okA_19
                · have e : m = 20 := by omega
                  subst e
                  exact ai_okA_20
            · by_cases c21_25 : m < 23
              · by_cases c21_23 : m < 22
                · have e : m = 21 := by omega
                  subst e
                  exact ai_okA_21
                · have e : m = 22 := by omega
                  subst e
                  exact ai_okA_22
              · by_cases c23_25 : m < 24
                · have e : m = 23 := by omega
                  subst e
                  exact ai_okA_23
                · have e : m = 24 := by omega
                  subst e
                  exact ai_okA_24
      · by_cases c25_51 : m < 38
        · by_cases c25_38 : m < 31
          · by_cases c25_31 : m < 28
            · by_cases c25_28 : m < 26
              · have e : m = 25 := by omega
                subst e
                exact ai_okA_25
              · by_cases c26_28 : m < 27
                · have e : m = 26 := by omega
                  subst e
                  exact ai_okA_26
                · have e : m = 27 := by omega
                  subst e
                  exact ai_okA_27
            · by_cases c28_31 : m < 29
              · have e : m = 28 := by omega
                subst e
                exact ai_okA_28
              · by_cases c29_31 : m < 30
                · have e : m = 29 := by omega
                  subst e
                  exact ai_okA_29
                · have e : m = 30 := by omega
                  subst e
                  exact ai_okA_30
          · by_cases c31_38 : m < 34
            · by_cases c31_34 : m < 32
              · have e : m = 31 := by omega
                subst e
                exact ai_okA_31
              · by_cases c32_34 : m < 33
                · have e : m = 32 := by omega
                  subst e
                  exact ai_okA_32
                · have e : m = 33 := by omega
                  subst e
                  exact ai_okA_33
            · by_cases c34_38 : m < 36
              · by_cases c34_36 : m < 35
                · have e : m = 34 := by omega
                  subst e
                  exact ai_okA_34
                · have e : m = 35 := by omega
                  subst e
                  exact ai_okA_35
              · by_cases c36_38 : m < 37
                · have e : m = 36 := by omega
                  subst e
                  exact ai_okA_36
                · have e : m = 37 := by omega
                  subst e
                  exact ai_okA_37
        · by_cases c38_51 : m < 44
          · by_cases c38_44 : m < 41
            · by_cases c38_41 : m < 39
              · have e : m = 38 := by omega
                subst e
                exact ai_okA_38
              · by_cases c39_41 : m < 40
                · have e : m = 39 := by omega
                  subst e
                  exact ai_okA_39
                · have e : m = 40 := by omega
                  subst e
                  exact ai_okA_40
            · by_cases c41_44 : m < 42
              · have e : m = 41 := by omega
                subst e
                exact ai_okA_41
              · by_cases c42_44 : m < 43
                · have e : m = 42 := by omega
                  subst e
                  exact ai_okA_42
                · have e : m = 43 := by omega
                  subst e
                  exact ai_okA_43
          · by_cases c44_51 : m < 47
            · by_cases c44_47 : m < 45
              · have e : m = 44 := by omega
                subst e
                exact ai_okA_44
              · by_cases c45_47 : m < 46
                · have e : m = 45 := by omega
                  subst e
                  exact ai_okA_45
                · have e : m = 46 := by omega
                  subst e
                  exact ai_okA_46
            · by_cases c47_51 : m < 49
              · by_cases c47_49 : m < 48
                · have e : m = 47 := by omega
                  subst e
                  exact ai_okA_47
                · have e : m = 48 := by omega
                  subst e
                  exact ai_okA_48
              · by_cases c49_51 : m < 50
                · have e : m = 49 := by omega
                  subst e
                  exact ai_okA_49
                · have e : m = 50 := by omega
                  subst e
                  exact ai_okA_50
    · by_cases c51_103 : m < 77
      · by_cases c51_77 : m < 64
        · by_cases c51_64 : m < 57
          · by_cases c51_57 : m < 54
            · by_cases c51_54 : m < 52
              · have e : m = 51 := by omega
                subst e
                exact ai_okA_51
              · by_cases c52_54 : m < 53
                · have e : m = 52 := by omega
                  subst e
                  exact ai_okA_52
                · have e : m = 53 := by omega
                  subst e
                  exact ai_okA_53
            · by_cases c54_57 : m < 55
              · have e : m = 54 := by omega
                subst e
                exact ai_okA_54
              · by_cases c55_57 : m < 56
                · have e : m = 55 := by omega
                  subst e
                  exact ai_okA_55
                · have e : m = 56 := by omega
                  subst e
                  exact ai_okA_56
          · by_cases c57_64 : m < 60
            · by_cases c57_60 : m < 58
              · have e : m = 57 := by omega
                subst e
                exact ai_okA_57
              · by_cases c58_60 : m < 59
                · have e : m = 58 := by omega
                  subst e
                  exact ai_okA_58
                · have e : m = 59 := by omega
                  subst e
                  exact ai_okA_59
            · by_cases c60_64 : m < 62
              · by_cases c60_62 : m < 61
                · have e : m = 60 := by omega
                  subst e
                  exact ai_okA_60
                · have e : m = 61 := by omega
                  subst e
                  exact ai_okA_61
              · by_cases c62_64 : m < 63
                · have e : m = 62 := by omega
                  subst e
                  exact ai_okA_62
                · have e : m = 63 := by omega
                  subst e
                  exact ai_okA_63
        · by_cases c64_77 : m < 70
          · by_cases c64_70 : m < 67
            · by_cases c64_67 : m < 65
              · have e : m = 64 := by omega
                subst e
                exact ai_okA_64
              · by_cases c65_67 : m < 66
                · have e : m = 65 := by omega
                  subst e
                  exact ai_okA_65
                · have e : m = 66 := by omega
                  subst e
                  exact ai_okA_66
            · by_cases c67_70 : m < 68
              · have e : m = 67 := by omega
                subst e
                exact ai_okA_67
              · by_cases c68_70 : m < 69
                · have e : m = 68 := by omega
                  subst e
                  exact ai_okA_68
                · have e : m = 69 := by omega
                  subst e
                  exact ai_okA_69
          · by_cases c70_77 : m < 73
            · by_cases c70_73 : m < 71
              · have e : m = 70 := by omega
                subst e
                exact ai_okA_70
              · by_cases c71_73 : m < 72
                · have e : m = 71 := by omega
                  subst e
                  exact ai_okA_71
                · have e : m = 72 := by omega
                  subst e
                  exact ai_okA_72
            · by_cases c73_77 : m < 75
              · by_cases c73_75 : m < 74
                · have e : m = 73 := by omega
                  subst e
                  exact ai_okA_73
                · have e : m = 74 := by omega
                  subst e
                  exact ai_okA_74
              · by_cases c75_77 : m < 76
                · have e : m = 75 := by omega
                  subst e
                  exact ai_okA_75
                · have e : m = 76 := by omega
                  subst e
                  exact ai_okA_76
      · by_cases c77_103 : m < 90
        · by_cases c77_90 : m < 83
          · by_cases c77_83 : m < 80
            · by_cases c77_80 : m < 78
              · have e : m = 77 := by omega
                subst e
                exact ai_okA_77
              · by_cases c78_80 : m < 79
                · have e : m = 78 := by omega
                  subst e
                  exact ai_okA_78
                · have e : m = 79 := by omega
                  subst e
                  exact ai_okA_79
            · by_cases c80_83 : m < 81
              · have e : m = 80 := by omega
                subst e
                exact ai_okA_80
              · by_cases c81_83 : m < 82
                · have e : m = 81 := by omega
                  subst e
                  exact ai_okA_81
                · have e : m = 82 := by omega
                  subst e
                  exact ai_okA_82
          · by_cases c83_90 : m < 86
            · by_cases c83_86 : m < 84
              · have e : m = 83 := by omega
                subst e
                exact ai_okA_83
              · by_cases c84_86 : m < 85
                · have e : m = 84 := by omega
                  subst e
                  exact ai_okA_84
                · have e : m = 85 := by omega
                  subst e
                  exact ai_okA_85
            · by_cases c86_90 : m < 88
              · by_cases c86_88 : m < 87
                · have e : m = 86 := by omega
                  subst e
                  exact ai_okA_86
                · have e : m = 87 := by omega
                  subst e
                  exact ai_okA_87
              · by_cases c88_90 : m < 89
                · have e : m = 88 := by omega
                  subst e
                  exact ai_okA_88
                · have e : m = 89 := by omega
                  subst e
                  exact ai_okA_89
        · by_cases c90_103 : m < 96
          · by_cases c90_96 : m < 93
            · by_cases c90_93 : m < 91
              · have e : m = 90 := by omega
                subst e
                exact ai_okA_90
              · by_cases c91_93 : m < 92
                · have e : m = 91 := by omega
                  subst e
                  exact ai_okA_91
                · have e : m = 92 := by omega
                  subst e
                  exact ai_okA_92
            · by_cases c93_96 : m < 94
              · have e : m = 93 := by omega
                subst e
                exact ai_okA_93
              · by_cases c94_96 : m < 95
                · have e : m = 94 := by omega
                  subst e
                  exact ai_okA_94
                · have e : m = 95 := by omega
                  subst e
                  exact ai_okA_95
          · by_cases c96_103 : m < 99
            · by_cases c96_99 : m < 97
              · have e : m = 96 := by omega
                subst e
                exact ai_okA_96
              · by_cases c97_99 : m < 98
                · have e : m = 97 := by omega
                  subst e
                  exact ai_okA_97
                · have e : m = 98 := by omega
                  subst e
                  exact ai_okA_98
            · by_cases c99_103 : m < 101
              · by_cases c99_101 : m < 100
                · have e : m = 99 := by omega
                  subst e
                  exact ai_okA_99
                · have e : m = 100 := by omega
                  subst e
                  exact ai_okA_100
              · by_cases c101_103 : m < 102
                · have e : m = 101 := by omega
                  subst e
                  exact ai_okA_101
                · have e : m = 102 := by omega
                  subst e
                  exact ai_okA_102
  · by_cases c103_207 : m < 155
    · by_cases c103_155 : m < 129
      · by_cases c103_129 : m < 116
        · by_cases c103_116 : m < 109
          · by_cases c103_109 : m < 106
            · by_cases c103_106 : m < 104
              · have e : m = 103 := by omega
                subst e
                exact ai_okA_103
              · by_cases c104_106 : m < 105
                · have e : m = 104 := by omega
                  subst e
                  exact ai_okA_104
                · have e : m = 105 := by omega
                  subst e
                  exact ai_okA_105
            · by_cases c106_109 : m < 107
              · have e : m = 106 := by omega
                subst e
                exact ai_okA_106
              · by_cases c107_109 : m < 108
                · have e : m = 107 := by omega
                  subst e
                  exact ai_okA_107
                · have e : m = 108 := by omega
                  subst e
                  exact ai_okA_108
          · by_cases c109_116 : m < 112
            · by_cases c109_112 : m < 110
              · have e : m = 109 := by omega
                subst e
                exact ai_okA_109
              · by_cases c110_112 : m < 111
                · have e : m = 110 := by omega
                  subst e
                  exact ai_okA_110
                · have e : m = 111 := by omega
                  subst e
                  exact ai_okA_111
            · by_cases c112_116 : m < 114
              · by_cases c112_114 : m < 113
                · have e : m = 112 := by omega
                  subst e
                  exact ai_okA_112
                · have e : m = 113 := by omega
                  subst e
                  exact ai_okA_113
              · by_cases c114_116 : m < 115
                · have e : m = 114 := by omega
                  subst e
                  exact ai_okA_114
                · have e : m = 115 := by omega
                  subst e
                  exact ai_okA_115
        · by_cases c116_129 : m < 122
          · by_cases c116_122 : m < 119
            · by_cases c116_119 : m < 117
              · have e : m = 116 := by omega
                subst e
                exact ai_okA_116
              · by_cases c117_119 : m < 118
                · have e : m = 117 := by omega
                  subst e
                  exact ai_okA_117
                · have e : m = 118 := by omega
                  subst e
                  exact ai_okA_118
            · by_cases c119_122 : m < 120
              · have e : m = 119 := by omega
                subst e
                exact ai_okA_119
              · by_cases c120_122 : m < 121
                · have e : m = 120 := by omega
                  subst e
                  exact ai_okA_120
                · have e : m = 121 := by omega
                  subst e
                  exact ai_okA_121
          · by_cases c122_129 : m < 125
            · by_cases c122_125 : m < 123
              · have e : m = 122 := by omega
                subst e
                exact ai_okA_122
              · by_cases c123_125 : m < 124
                · have e : m = 123 := by omega
                  subst e
                  exact ai_okA_123
                · have e : m = 124 := by omega
                  subst e
                  exact ai_okA_124
            · by_cases c125_129 : m < 127
              · by_cases c125_127 : m < 126
                · have e : m = 125 := by omega
                  subst e
                  exact ai_okA_125
                · have e : m = 126 := by omega
                  subst e
                  exact ai_okA_126
              · by_cases c127_129 : m < 128
                · have e : m = 127 := by omega
                  subst e
                  exact ai_okA_127
                · have e : m = 128 := by omega
                  subst e
                  exact ai_okA_128
      · by_cases c129_155 : m < 142
        · by_cases c129_142 : m < 135
          · by_cases c129_135 : m < 132
            · by_cases c129_132 : m < 130
              · have e : m = 129 := by omega
                subst e
                exact ai_okA_129
              · by_cases c130_132 : m < 131
                · have e : m = 130 := by omega
                  subst e
                  exact ai_okA_130
                · have e : m = 131 := by omega
                  subst e
                  exact ai_okA_131
            · by_cases c132_135 : m < 133
              · have e : m = 132 := by omega
                subst e
                exact ai_okA_132
              · by_cases c133_135 : m < 134
                · have e : m = 133 := by omega
                  subst e
                  exact ai_okA_133
                · have e : m = 134 := by omega
                  subst e
                  exact ai_okA_134
          · by_cases c135_142 : m < 138
            · by_cases c135_138 : m < 136
              · have e : m = 135 := by omega
                subst e
                exact ai_okA_135
              · by_cases c136_138 : m < 137
                · have e : m = 136 := by omega
                  subst e
                  exact ai_okA_136
                · have e : m = 137 := by omega
                  subst e
                  exact ai_okA_137
            · by_cases c138_142 : m < 140
              · by_cases c138_140 : m < 139
                · have e : m = 138 := by omega
                  subst e
                  exact ai_okA_138
                · have e : m = 139 := by omega
                  subst e
                  exact ai_okA_139
              · by_cases c140_142 : m < 141
                · have e : m = 140 := by omega
                  subst e
                  exact ai_okA_140
                · have e : m = 141 := by omega
                  subst e
                  exact ai_okA_141
        · by_cases c142_155 : m < 148
          · by_cases c142_148 : m < 145
            · by_cases c142_145 : m < 143
              · have e : m = 142 := by omega
                subst e
                exact ai_okA_142
              · by_cases c143_145 : m < 144
                · have e : m = 143 := by omega
                  subst e
                  exact ai_okA_143
                · have e : m = 144 := by omega
                  subst e
                  exact ai_okA_144
            · by_cases c145_148 : m < 146
              · have e : m = 145 := by omega
                subst e
                exact ai_okA_145
              · by_cases c146_148 : m < 147
                · have e : m = 146 := by omega
                  subst e
                  exact ai_okA_146
                · have e : m = 147 := by omega
                  subst e
                  exact ai_okA_147
          · by_cases c148_155 : m < 151
            · by_cases c148_151 : m < 149
              · have e : m = 148 := by omega
                subst e
                exact ai_okA_148
              · by_cases c149_151 : m < 150
                · have e : m = 149 := by omega
                  subst e
                  exact ai_okA_149
                · have e : m = 150 := by omega
                  subst e
                  exact ai_okA_150
            · by_cases c151_155 : m < 153
              · by_cases c151_153 : m < 152
                · have e : m = 151 := by omega
                  subst e
                  exact ai_okA_151
                · have e : m = 152 := by omega
                  subst e
                  exact ai_okA_152
              · by_cases c153_155 : m < 154
                · have e : m = 153 := by omega
                  subst e
                  exact ai_okA_153
                · have e : m = 154 := by omega
                  subst e
                  exact ai_okA_154
    · by_cases c155_207 : m < 181
      · by_cases c155_181 : m < 168
        · by_cases c155_168 : m < 161
          · by_cases c155_161 : m < 158
            · by_cases c155_158 : m < 156
              · have e : m = 155 := by omega
                subst e
                exact ai_okA_155
              · by_cases c156_158 : m < 157
                · have e : m = 156 := by omega
                  subst e
                  exact ai_okA_156
                · have e : m = 157 := by omega
                  subst e
                  exact ai_okA_157
            · by_cases c158_161 : m < 159
              · have e : m = 158 := by omega
                subst e
                exact ai_okA_158
              · by_cases c159_161 : m < 160
                · have e : m = 159 := by omega
                  subst e
                  exact ai_okA_159
                · have e : m = 160 := by omega
                  subst e
                  exact ai_okA_160
          · by_cases c161_168 : m < 164
            · by_cases c161_164 : m < 162
              · have e : m = 161 := by omega
                subst e
                exact ai_okA_161
              · by_cases c162_164 : m < 163
                · have e : m = 162 := by omega
                  subst e
                  exact ai_okA_162
                · have e : m = 163 := by omega
                  subst e
                  exact ai_okA_163
            · by_cases c164_168 : m < 166
              · by_cases c164_166 : m < 165
                · have e : m = 164 := by omega
                  subst e
                  exact ai_okA_164
                · have e : m = 165 := by omega
                  subst e
                  exact ai_okA_165
              · by_cases c166_168 : m < 167
                · have e : m = 166 := by omega
                  subst e
                  exact ai_okA_166
                · have e : m = 167 := by omega
                  subst e
                  exact ai_okA_167
        · by_cases c168_181 : m < 174
          · by_cases c168_174 : m < 171
            · by_cases c168_171 : m < 169
              · have e : m = 168 := by omega
                subst e
                exact ai_okA_168
              · by_cases c169_171 : m < 170
                · have e : m = 169 := by omega
                  subst e
                  exact ai_okA_169
                · have e : m = 170 := by omega
                  subst e
                  exact ai_okA_170
            · by_cases c171_174 : m < 172
              · have e : m = 171 := by omega
                subst e
                exact ai_okA_171
              · by_cases c172_174 : m < 173
                · have e : m = 172 := by omega
                  subst e
                  exact ai_okA_172
                · have e : m = 173 := by omega
                  subst e
                  exact ai_okA_173
          · by_cases c174_181 : m < 177
            · by_cases c174_177 : m < 175
              · have e : m = 174 := by omega
                subst e
                exact ai_okA_174
              · by_cases c175_177 : m < 176
                · have e : m = 175 := by omega
                  subst e
                  exact ai_okA_175
                · have e : m = 176 := by omega
                  subst e
                  exact ai_okA_176
            · by_cases c177_181 : m < 179
              · by_cases c177_179 : m < 178
                · have e : m = 177 := by omega
                  subst e
                  exact ai_okA_177
                · have e : m = 178 := by omega
                  subst e
                  exact ai_okA_178
              · by_cases c179_181 : m < 180
                · have e : m = 179 := by omega
                  subst e
                  exact ai_okA_179
                · have e : m = 180 := by omega
                  subst e
                  exact ai_okA_180
      · by_cases c181_207 : m < 194
        · by_cases c181_194 : m < 187
          · by_cases c181_187 : m < 184
            · by_cases c181_184 : m < 182
              · have e : m = 181 := by omega
                subst e
                exact ai_okA_181
              · by_cases c182_184 : m < 183
                · have e : m = 182 := by omega
                  subst e
                  exact ai_okA_182
                · have e : m = 183 := by omega
                  subst e
                  exact ai_okA_183
            · by_cases c184_187 : m < 185
              · have e : m = 184 := by omega
                subst e
                exact ai_okA_184
              · by_cases c185_187 : m < 186
                · have e : m = 185 := by omega
                  subst e
                  exact ai_okA_185
                · have e : m = 186 := by omega
                  subst e
                  exact ai_okA_186
          · by_cases c187_194 : m < 190
            · by_cases c187_190 : m < 188
              · have e : m = 187 := by omega
                subst e
                exact ai_okA_187
              · by_cases c188_190 : m < 189
                · have e : m = 188 := by omega
                  subst e
                  exact ai_okA_188
                · have e : m = 189 := by omega
                  subst e
                  exact ai_okA_189
            · by_cases c190_194 : m < 192
              · by_cases c190_192 : m < 191
                · have e : m = 190 := by omega
                  subst e
                  exact ai_okA_190
                · have e : m = 191 := by omega
                  subst e
                  exact ai_okA_191
              · by_cases c192_194 : m < 193
                · have e : m = 192 := by omega
                  subst e
                  exact ai_okA_192
                · have e : m = 193 := by omega
                  subst e
                  exact ai_okA_193
        · by_cases c194_207 : m < 200
          · by_cases c194_200 : m < 197
            · by_cases c194_197 : m < 195
              · have e : m = 194 := by omega
                subst e
                exact ai_okA_194
              · by_cases c195_197 : m < 196
                · have e : m = 195 := by omega
                  subst e
                  exact ai_okA_195
                · have e : m = 196 := by omega
                  subst e
                  exact ai_okA_196
            · by_cases c197_200 : m < 198
              · have e : m = 197 := by omega
                subst e
                exact ai_okA_197
              · by_cases c198_200 : m < 199
                · have e : m = 198 := by omega
                  subst e
                  exact ai_okA_198
                · have e : m = 199 := by omega
                  subst e
                  exact ai_okA_199
          · by_cases c200_207 : m < 203
            · by_cases c200_203 : m < 201
              · have e : m = 200 := by omega
                subst e
                exact ai_okA_200
              · by_cases c201_203 : m < 202
                · have e : m = 201 := by omega
                  subst e
                  exact ai_okA_201
                · have e : m = 202 := by omega
                  subst e
                  exact ai_okA_202
            · by_cases c203_207 : m < 205
              · by_cases c203_205 : m < 204
                · have e : m = 203 := by omega
                  subst e
                  exact ai_okA_203
                · have e : m = 204 := by omega
                  subst e
                  exact ai_okA_204
              · by_cases c205_207 : m < 206
                · have e : m = 205 := by omega
                  subst e
                  exact ai_okA_205
                · have e : m = 206 := by omega
                  subst e
                  exact ai_okA_206
theorem ai_row {m i : Nat} {e : ai_E} (h : ai_nth (ai_ops m) i = some e) : decode (ai_mB m) (ai_pc m i) = .ok (e.2.1, e.2.2.1) ∧ ai_okI m i (ai_pc m i) e.2.2.2.1 e.2.1 = true := by
  have h0 := ai_okA_all (ai_ops_lt h) i e h
  unfold ai_ok at h0
  simp only [Bool.and_eq_true, decide_eq_true_eq] at h0
  have hp : ai_pc m i = e.1 := by unfold ai_pc; rw [h]
  rw [hp]
  exact h0
/-! lengths of instructions, and the words of methods -/
noncomputable def ai_lk (e : ai_E) : Bool := match e.2.1 with
  | .tableswitch _ _ _ _ => true
  | .iconst _ | .lconst _ | .iload_n _ | .lload_n _ | .aload_n _ | .istore_n _ | .lstore_n _ | .astore_n _ | .iadd | .isub | .imul | .iand | .ior | .ixor | .ishl | .ishr | .idiv | .irem | .ladd | .lsub | .lmul | .land | .lor | .ldiv | .lrem | .lshl | .lshr | .lneg | .i2c | .i2l | .l2i | .lcmp | .dup | .dup2 | .pop | .iaload | .baload | .caload | .laload | .aaload | .iastore | .bastore | .castore | .lastore | .aastore | .arraylength | .return_ | .ireturn | .lreturn | .athrow => Nat.beq e.2.2.1 1
  | .iload _ | .lload _ | .aload _ | .istore _ | .lstore _ | .astore _ | .bipush _ | .newarray _ | .ldc _ => Nat.beq e.2.2.1 2
  | .sipush _ | .ldc2_w _ | .iinc _ _ | .ifCond _ _ | .if_icmp _ _ | .goto _ | .getfield _ | .putfield _ | .new _ | .anewarray _ | .invokevirtual _ | .invokestatic _ | .invokespecial _ => Nat.beq e.2.2.1 3
  | _ => false
set_option maxRecDepth 1000000 in
theorem ai_lk_all : (List.range 207).all (fun m => (ai_ops m).all ai_lk) = true := by decide +kernel
theorem ai_lk_of {m i : Nat} {e : ai_E} (h : ai_nth (ai_ops m) i = some e) : ai_lk e = true := by
  have h1 := List.all_eq_true.mp ai_lk_all m (List.mem_range.mpr (ai_ops_lt h))
  rw [ai_nth_eq] at h
  exact List.all_eq_true.mp h1 e (List.mem_of_getElem? h)
theorem ai_kd_le : ∀ c j, ai_kd c j ≤ 4 := by
  have h : ai_kdT.all (fun l => l.all (fun x => decide (x ≤ 4))) = true := by decide +kernel
  intro c j
  unfold ai_kd ai_gd
  split
  · rename_i x hx
    split at hx
    · rename_i l hl
      rw [ai_nth_eq] at hl hx
      have h1 := List.all_eq_true.mp h l (List.mem_of_getElem? hl)
      exact of_decide_eq_true (List.all_eq_true.mp h1 x (List.mem_of_getElem? hx))
    · simp [ai_nth] at hx
  · exact Nat.zero_le _
theorem ai_cw_in {m : Nat} (h : m < 206) : ai_cw m ∈ ai_WS := by
  have key : ∀ a n, (List.range' a n).map (fun m => ai_nth (ai_wl ((ai_ww m).1 / 1000)) ((ai_ww m).1 % 1000)) = (List.range' a n).map (fun m => some (ai_cw m)) → a ≤ m → m < a + n → ai_cw m ∈ ai_WS := by
    intro a n h0 h1 h2
    have h3 := List.map_inj_left.mp h0 m (List.mem_range'_1.mpr ⟨h1, h2⟩)
    rw [ai_nth_eq] at h3
    refine List.mem_filter.mpr ⟨ai_wl_in (List.mem_of_getElem? h3), ?_⟩
    unfold ai_cw
    split <;> rfl
  by_cases h1 : m < 103
  · exact key 0 103 ai_okW_0 (Nat.zero_le _) (by omega)
  · exact key 103 103 ai_okW_103 (by omega) (by omega)
theorem ai_meth {m : Nat} (h : m < 206) : ai_okY m = true := by
  have key : ∀ a n, (List.range' a n).all ai_okY = true → a ≤ m → m < a + n → ai_okY m = true := fun a n h0 h1 h2 => List.all_eq_true.mp h0 m (List.mem_range'_1.mpr ⟨h1, h2⟩)
  by_cases h1 : m < 52
  · exact key 0 52 ai_okY_0 (Nat.zero_le _) (by omega)
  · by_cases h2 : m < 104
    · exact key 52 52 ai_okY_52 (by omega) (by omega)
    · by_cases h3 : m < 156
      · exact key 104 52 ai_okY_104 (by omega) (by omega)
      · exact key 156 50 ai_okY_156 (by omega) (by omega)

/-! ===== facts of the layouts ===== -/
section
variable {z : Sh} {h : Hp} {b : Nat} {R : Nat → Nat → Option Nat}
theorem kx_0 (H : LayX z R b) : z.K (b) = 11 := (H.1 0 (by decide)).1
theorem kx_1 (H : LayX z R b) : z.K (b + 1) = 13 := (H.1 1 (by decide)).1
theorem nx_1 (H : LayX z R b) : z.N (b + 1) = 900 := (H.1 1 (by decide)).2
theorem kx_2 (H : LayX z R b) : z.K (b + 2) = 6 := (H.1 2 (by decide)).1
theorem kx_3 (H : LayX z R b) : z.K (b + 3) = 13 := (H.1 3 (by decide)).1
theorem nx_3 (H : LayX z R b) : z.N (b + 3) = 0 := (H.1 3 (by decide)).2
theorem kx_4 (H : LayX z R b) : z.K (b + 4) = 8 := (H.1 4 (by decide)).1
theorem kx_5 (H : LayX z R b) : z.K (b + 5) = 14 := (H.1 5 (by decide)).1
theorem nx_5 (H : LayX z R b) : z.N (b + 5) = 6 := (H.1 5 (by decide)).2
theorem kx_6 (H : LayX z R b) : z.K (b + 6) = 14 := (H.1 6 (by decide)).1
theorem nx_6 (H : LayX z R b) : z.N (b + 6) = 6 := (H.1 6 (by decide)).2
theorem kx_7 (H : LayX z R b) : z.K (b + 7) = 14 := (H.1 7 (by decide)).1
theorem nx_7 (H : LayX z R b) : z.N (b + 7) = 900 := (H.1 7 (by decide)).2
theorem kx_8 (H : LayX z R b) : z.K (b + 8) = 8 := (H.1 8 (by decide)).1
theorem kx_9 (H : LayX z R b) : z.K (b + 9) = 14 := (H.1 9 (by decide)).1
theorem nx_9 (H : LayX z R b) : z.N (b + 9) = 6 := (H.1 9 (by decide)).2
theorem kx_10 (H : LayX z R b) : z.K (b + 10) = 14 := (H.1 10 (by decide)).1
theorem nx_10 (H : LayX z R b) : z.N (b + 10) = 6 := (H.1 10 (by decide)).2
theorem kx_11 (H : LayX z R b) : z.K (b + 11) = 5 := (H.1 11 (by decide)).1
theorem kx_12 (H : LayX z R b) : z.K (b + 12) = 14 := (H.1 12 (by decide)).1
theorem nx_12 (H : LayX z R b) : z.N (b + 12) = 54 := (H.1 12 (by decide)).2
theorem kx_13 (H : LayX z R b) : z.K (b + 13) = 5 := (H.1 13 (by decide)).1
theorem kx_14 (H : LayX z R b) : z.K (b + 14) = 14 := (H.1 14 (by decide)).1
theorem nx_14 (H : LayX z R b) : z.N (b + 14) = 54 := (H.1 14 (by decide)).2
theorem kx_15 (H : LayX z R b) : z.K (b + 15) = 4 := (H.1 15 (by decide)).1
theorem kx_16 (H : LayX z R b) : z.K (b + 16) = 18 := (H.1 16 (by decide)).1
theorem nx_16 (H : LayX z R b) : z.N (b + 16) = 10 := (H.1 16 (by decide)).2
theorem kx_17 (H : LayX z R b) : z.K (b + 17) = 5 := (H.1 17 (by decide)).1
theorem kx_18 (H : LayX z R b) : z.K (b + 18) = 14 := (H.1 18 (by decide)).1
theorem nx_18 (H : LayX z R b) : z.N (b + 18) = 54 := (H.1 18 (by decide)).2
theorem kx_19 (H : LayX z R b) : z.K (b + 19) = 5 := (H.1 19 (by decide)).1
theorem kx_20 (H : LayX z R b) : z.K (b + 20) = 14 := (H.1 20 (by decide)).1
theorem nx_20 (H : LayX z R b) : z.N (b + 20) = 54 := (H.1 20 (by decide)).2
theorem kx_21 (H : LayX z R b) : z.K (b + 21) = 5 := (H.1 21 (by decide)).1
theorem kx_22 (H : LayX z R b) : z.K (b + 22) = 14 := (H.1 22 (by decide)).1
theorem nx_22 (H : LayX z R b) : z.N (b + 22) = 54 := (H.1 22 (by decide)).2
theorem kx_23 (H : LayX z R b) : z.K (b + 23) = 5 := (H.1 23 (by decide)).1
theorem kx_24 (H : LayX z R b) : z.K (b + 24) = 14 := (H.1 24 (by decide)).1
theorem nx_24 (H : LayX z R b) : z.N (b + 24) = 54 := (H.1 24 (by decide)).2
theorem kx_25 (H : LayX z R b) : z.K (b + 25) = 5 := (H.1 25 (by decide)).1
theorem kx_26 (H : LayX z R b) : z.K (b + 26) = 14 := (H.1 26 (by decide)).1
theorem nx_26 (H : LayX z R b) : z.N (b + 26) = 54 := (H.1 26 (by decide)).2
theorem kx_27 (H : LayX z R b) : z.K (b + 27) = 5 := (H.1 27 (by decide)).1
theorem kx_28 (H : LayX z R b) : z.K (b + 28) = 14 := (H.1 28 (by decide)).1
theorem nx_28 (H : LayX z R b) : z.N (b + 28) = 54 := (H.1 28 (by decide)).2
theorem kx_29 (H : LayX z R b) : z.K (b + 29) = 5 := (H.1 29 (by decide)).1
theorem kx_30 (H : LayX z R b) : z.K (b + 30) = 14 := (H.1 30 (by decide)).1
theorem nx_30 (H : LayX z R b) : z.N (b + 30) = 54 := (H.1 30 (by decide)).2
theorem kx_31 (H : LayX z R b) : z.K (b + 31) = 5 := (H.1 31 (by decide)).1
theorem kx_32 (H : LayX z R b) : z.K (b + 32) = 14 := (H.1 32 (by decide)).1
theorem nx_32 (H : LayX z R b) : z.N (b + 32) = 54 := (H.1 32 (by decide)).2
theorem kx_33 (H : LayX z R b) : z.K (b + 33) = 5 := (H.1 33 (by decide)).1
theorem kx_34 (H : LayX z R b) : z.K (b + 34) = 14 := (H.1 34 (by decide)).1
theorem nx_34 (H : LayX z R b) : z.N (b + 34) = 54 := (H.1 34 (by decide)).2
theorem kx_35 (H : LayX z R b) : z.K (b + 35) = 5 := (H.1 35 (by decide)).1
theorem kx_36 (H : LayX z R b) : z.K (b + 36) = 14 := (H.1 36 (by decide)).1
theorem nx_36 (H : LayX z R b) : z.N (b + 36) = 54 := (H.1 36 (by decide)).2
theorem kx_37 (H : LayX z R b) : z.K (b + 37) = 19 := (H.1 37 (by decide)).1
theorem nx_37 (H : LayX z R b) : z.N (b + 37) = 2 := (H.1 37 (by decide)).2
theorem kx_38 (H : LayX z R b) : z.K (b + 38) = 18 := (H.1 38 (by decide)).1
theorem nx_38 (H : LayX z R b) : z.N (b + 38) = 2 := (H.1 38 (by decide)).2
theorem kx_39 (H : LayX z R b) : z.K (b + 39) = 20 := (H.1 39 (by decide)).1
theorem nx_39 (H : LayX z R b) : z.N (b + 39) = 4 := (H.1 39 (by decide)).2
theorem kx_40 (H : LayX z R b) : z.K (b + 40) = 7 := (H.1 40 (by decide)).1
theorem kx_41 (H : LayX z R b) : z.K (b + 41) = 14 := (H.1 41 (by decide)).1
theorem nx_41 (H : LayX z R b) : z.N (b + 41) = 7 := (H.1 41 (by decide)).2
theorem kx_42 (H : LayX z R b) : z.K (b + 42) = 14 := (H.1 42 (by decide)).1
theorem nx_42 (H : LayX z R b) : z.N (b + 42) = 64 := (H.1 42 (by decide)).2
theorem kx_43 (H : LayX z R b) : z.K (b + 43) = 2 := (H.1 43 (by decide)).1
theorem kx_44 (H : LayX z R b) : z.K (b + 44) = 10 := (H.1 44 (by decide)).1
theorem kx_45 (H : LayX z R b) : z.K (b + 45) = 17 := (H.1 45 (by decide)).1
theorem nx_45 (H : LayX z R b) : z.N (b + 45) = 10 := (H.1 45 (by decide)).2
theorem kx_46 (H : LayX z R b) : z.K (b + 46) = 14 := (H.1 46 (by decide)).1
theorem nx_46 (H : LayX z R b) : z.N (b + 46) = 7 := (H.1 46 (by decide)).2
theorem kx_47 (H : LayX z R b) : z.K (b + 47) = 8 := (H.1 47 (by decide)).1
theorem kx_48 (H : LayX z R b) : z.K (b + 48) = 14 := (H.1 48 (by decide)).1
theorem nx_48 (H : LayX z R b) : z.N (b + 48) = 6 := (H.1 48 (by decide)).2
theorem kx_49 (H : LayX z R b) : z.K (b + 49) = 14 := (H.1 49 (by decide)).1
theorem nx_49 (H : LayX z R b) : z.N (b + 49) = 6 := (H.1 49 (by decide)).2
theorem kx_50 (H : LayX z R b) : z.K (b + 50) = 1 := (H.1 50 (by decide)).1
theorem kx_51 (H : LayX z R b) : z.K (b + 51) = 3 := (H.1 51 (by decide)).1
theorem kx_52 (H : LayX z R b) : z.K (b + 52) = 15 := (H.1 52 (by decide)).1
theorem nx_52 (H : LayX z R b) : z.N (b + 52) = 1400 := (H.1 52 (by decide)).2
theorem kx_53 (H : LayX z R b) : z.K (b + 53) = 14 := (H.1 53 (by decide)).1
theorem nx_53 (H : LayX z R b) : z.N (b + 53) = 1400 := (H.1 53 (by decide)).2
theorem kx_54 (H : LayX z R b) : z.K (b + 54) = 14 := (H.1 54 (by decide)).1
theorem nx_54 (H : LayX z R b) : z.N (b + 54) = 1400 := (H.1 54 (by decide)).2
theorem kx_55 (H : LayX z R b) : z.K (b + 55) = 0 := (H.1 55 (by decide)).1
theorem kx_56 (H : LayX z R b) : z.K (b + 56) = 3 := (H.1 56 (by decide)).1
theorem kx_57 (H : LayX z R b) : z.K (b + 57) = 15 := (H.1 57 (by decide)).1
theorem nx_57 (H : LayX z R b) : z.N (b + 57) = 1400 := (H.1 57 (by decide)).2
theorem kx_58 (H : LayX z R b) : z.K (b + 58) = 14 := (H.1 58 (by decide)).1
theorem nx_58 (H : LayX z R b) : z.N (b + 58) = 1400 := (H.1 58 (by decide)).2
theorem kx_59 (H : LayX z R b) : z.K (b + 59) = 14 := (H.1 59 (by decide)).1
theorem nx_59 (H : LayX z R b) : z.N (b + 59) = 19 := (H.1 59 (by decide)).2
theorem kx_60 (H : LayX z R b) : z.K (b + 60) = 5 := (H.1 60 (by decide)).1
theorem kx_61 (H : LayX z R b) : z.K (b + 61) = 14 := (H.1 61 (by decide)).1
theorem nx_61 (H : LayX z R b) : z.N (b + 61) = 54 := (H.1 61 (by decide)).2
theorem kx_62 (H : LayX z R b) : z.K (b + 62) = 5 := (H.1 62 (by decide)).1
theorem kx_63 (H : LayX z R b) : z.K (b + 63) = 14 := (H.1 63 (by decide)).1
theorem nx_63 (H : LayX z R b) : z.N (b + 63) = 54 := (H.1 63 (by decide)).2
theorem kx_64 (H : LayX z R b) : z.K (b + 64) = 9 := (H.1 64 (by decide)).1
theorem kx_65 (H : LayX z R b) : z.K (b + 65) = 15 := (H.1 65 (by decide)).1
theorem nx_65 (H : LayX z R b) : z.N (b + 65) = 40 := (H.1 65 (by decide)).2
theorem kx_66 (H : LayX z R b) : z.K (b + 66) = 9 := (H.1 66 (by decide)).1
theorem kx_67 (H : LayX z R b) : z.K (b + 67) = 15 := (H.1 67 (by decide)).1
theorem nx_67 (H : LayX z R b) : z.N (b + 67) = 40 := (H.1 67 (by decide)).2
theorem kx_68 (H : LayX z R b) : z.K (b + 68) = 9 := (H.1 68 (by decide)).1
theorem kx_69 (H : LayX z R b) : z.K (b + 69) = 15 := (H.1 69 (by decide)).1
theorem nx_69 (H : LayX z R b) : z.N (b + 69) = 40 := (H.1 69 (by decide)).2
theorem kx_70 (H : LayX z R b) : z.K (b + 70) = 9 := (H.1 70 (by decide)).1
theorem kx_71 (H : LayX z R b) : z.K (b + 71) = 15 := (H.1 71 (by decide)).1
theorem nx_71 (H : LayX z R b) : z.N (b + 71) = 40 := (H.1 71 (by decide)).2
theorem rx_0_0 (H : LayX z h.2.2 b) : h.R (b) 0 = some (b + 1) := H.2 (0, 0, 1) (List.mem_of_getElem? (i := 0) rfl)
theorem rx_0_2 (H : LayX z h.2.2 b) : h.R (b) 2 = some (b + 2) := H.2 (0, 2, 2) (List.mem_of_getElem? (i := 1) rfl)
theorem rx_0_4 (H : LayX z h.2.2 b) : h.R (b) 4 = some (b + 11) := H.2 (0, 4, 11) (List.mem_of_getElem? (i := 2) rfl)
theorem rx_0_5 (H : LayX z h.2.2 b) : h.R (b) 5 = some (b + 13) := H.2 (0, 5, 13) (List.mem_of_getElem? (i := 3) rfl)
theorem rx_0_6 (H : LayX z h.2.2 b) : h.R (b) 6 = some (b + 15) := H.2 (0, 6, 15) (List.mem_of_getElem? (i := 4) rfl)
theorem rx_0_7 (H : LayX z h.2.2 b) : h.R (b) 7 = some (b + 37) := H.2 (0, 7, 37) (List.mem_of_getElem? (i := 5) rfl)
theorem rx_0_8 (H : LayX z h.2.2 b) : h.R (b) 8 = some (b + 38) := H.2 (0, 8, 38) (List.mem_of_getElem? (i := 6) rfl)
theorem rx_0_9 (H : LayX z h.2.2 b) : h.R (b) 9 = some (b + 39) := H.2 (0, 9, 39) (List.mem_of_getElem? (i := 7) rfl)
theorem rx_0_10 (H : LayX z h.2.2 b) : h.R (b) 10 = some (b + 40) := H.2 (0, 10, 40) (List.mem_of_getElem? (i := 8) rfl)
theorem rx_0_11 (H : LayX z h.2.2 b) : h.R (b) 11 = some (b + 43) := H.2 (0, 11, 43) (List.mem_of_getElem? (i := 9) rfl)
theorem rx_0_12 (H : LayX z h.2.2 b) : h.R (b) 12 = some (b + 44) := H.2 (0, 12, 44) (List.mem_of_getElem? (i := 10) rfl)
theorem rx_0_13 (H : LayX z h.2.2 b) : h.R (b) 13 = some (b + 50) := H.2 (0, 13, 50) (List.mem_of_getElem? (i := 11) rfl)
theorem rx_0_14 (H : LayX z h.2.2 b) : h.R (b) 14 = some (b + 55) := H.2 (0, 14, 55) (List.mem_of_getElem? (i := 12) rfl)
theorem rx_0_15 (H : LayX z h.2.2 b) : h.R (b) 15 = some (b + 59) := H.2 (0, 15, 59) (List.mem_of_getElem? (i := 13) rfl)
theorem rx_2_10 (H : LayX z h.2.2 b) : h.R (b + 2) 10 = some (b + 7) := H.2 (2, 10, 7) (List.mem_of_getElem? (i := 14) rfl)
theorem rx_4_6 (H : LayX z h.2.2 b) : h.R (b + 4) 6 = some (b + 5) := H.2 (4, 6, 5) (List.mem_of_getElem? (i := 15) rfl)
theorem rx_4_7 (H : LayX z h.2.2 b) : h.R (b + 4) 7 = some (b + 6) := H.2 (4, 7, 6) (List.mem_of_getElem? (i := 16) rfl)
theorem rx_8_6 (H : LayX z h.2.2 b) : h.R (b + 8) 6 = some (b + 9) := H.2 (8, 6, 9) (List.mem_of_getElem? (i := 17) rfl)
theorem rx_8_7 (H : LayX z h.2.2 b) : h.R (b + 8) 7 = some (b + 10) := H.2 (8, 7, 10) (List.mem_of_getElem? (i := 18) rfl)
theorem rx_11_0 (H : LayX z h.2.2 b) : h.R (b + 11) 0 = some (b + 12) := H.2 (11, 0, 12) (List.mem_of_getElem? (i := 19) rfl)
theorem rx_13_0 (H : LayX z h.2.2 b) : h.R (b + 13) 0 = some (b + 14) := H.2 (13, 0, 14) (List.mem_of_getElem? (i := 20) rfl)
theorem rx_15_0 (H : LayX z h.2.2 b) : h.R (b + 15) 0 = some (b + 16) := H.2 (15, 0, 16) (List.mem_of_getElem? (i := 21) rfl)
theorem rx_16_0 (H : LayX z h.2.2 b) : h.R (b + 16) 0 = some (b + 17) := H.2 (16, 0, 17) (List.mem_of_getElem? (i := 22) rfl)
theorem rx_16_1 (H : LayX z h.2.2 b) : h.R (b + 16) 1 = some (b + 19) := H.2 (16, 1, 19) (List.mem_of_getElem? (i := 23) rfl)
theorem rx_16_2 (H : LayX z h.2.2 b) : h.R (b + 16) 2 = some (b + 21) := H.2 (16, 2, 21) (List.mem_of_getElem? (i := 24) rfl)
theorem rx_16_3 (H : LayX z h.2.2 b) : h.R (b + 16) 3 = some (b + 23) := H.2 (16, 3, 23) (List.mem_of_getElem? (i := 25) rfl)
theorem rx_16_4 (H : LayX z h.2.2 b) : h.R (b + 16) 4 = some (b + 25) := H.2 (16, 4, 25) (List.mem_of_getElem? (i := 26) rfl)
theorem rx_16_5 (H : LayX z h.2.2 b) : h.R (b + 16) 5 = some (b + 27) := H.2 (16, 5, 27) (List.mem_of_getElem? (i := 27) rfl)
theorem rx_16_6 (H : LayX z h.2.2 b) : h.R (b + 16) 6 = some (b + 29) := H.2 (16, 6, 29) (List.mem_of_getElem? (i := 28) rfl)
theorem rx_16_7 (H : LayX z h.2.2 b) : h.R (b + 16) 7 = some (b + 31) := H.2 (16, 7, 31) (List.mem_of_getElem? (i := 29) rfl)
theorem rx_16_8 (H : LayX z h.2.2 b) : h.R (b + 16) 8 = some (b + 33) := H.2 (16, 8, 33) (List.mem_of_getElem? (i := 30) rfl)
theorem rx_16_9 (H : LayX z h.2.2 b) : h.R (b + 16) 9 = some (b + 35) := H.2 (16, 9, 35) (List.mem_of_getElem? (i := 31) rfl)
theorem rx_17_0 (H : LayX z h.2.2 b) : h.R (b + 17) 0 = some (b + 18) := H.2 (17, 0, 18) (List.mem_of_getElem? (i := 32) rfl)
theorem rx_19_0 (H : LayX z h.2.2 b) : h.R (b + 19) 0 = some (b + 20) := H.2 (19, 0, 20) (List.mem_of_getElem? (i := 33) rfl)
theorem rx_21_0 (H : LayX z h.2.2 b) : h.R (b + 21) 0 = some (b + 22) := H.2 (21, 0, 22) (List.mem_of_getElem? (i := 34) rfl)
theorem rx_23_0 (H : LayX z h.2.2 b) : h.R (b + 23) 0 = some (b + 24) := H.2 (23, 0, 24) (List.mem_of_getElem? (i := 35) rfl)
theorem rx_25_0 (H : LayX z h.2.2 b) : h.R (b + 25) 0 = some (b + 26) := H.2 (25, 0, 26) (List.mem_of_getElem? (i := 36) rfl)
theorem rx_27_0 (H : LayX z h.2.2 b) : h.R (b + 27) 0 = some (b + 28) := H.2 (27, 0, 28) (List.mem_of_getElem? (i := 37) rfl)
theorem rx_29_0 (H : LayX z h.2.2 b) : h.R (b + 29) 0 = some (b + 30) := H.2 (29, 0, 30) (List.mem_of_getElem? (i := 38) rfl)
theorem rx_31_0 (H : LayX z h.2.2 b) : h.R (b + 31) 0 = some (b + 32) := H.2 (31, 0, 32) (List.mem_of_getElem? (i := 39) rfl)
theorem rx_33_0 (H : LayX z h.2.2 b) : h.R (b + 33) 0 = some (b + 34) := H.2 (33, 0, 34) (List.mem_of_getElem? (i := 40) rfl)
theorem rx_35_0 (H : LayX z h.2.2 b) : h.R (b + 35) 0 = some (b + 36) := H.2 (35, 0, 36) (List.mem_of_getElem? (i := 41) rfl)
theorem rx_38_0 (H : LayX z h.2.2 b) : h.R (b + 38) 0 = some (b + 60) := H.2 (38, 0, 60) (List.mem_of_getElem? (i := 42) rfl)
theorem rx_38_1 (H : LayX z h.2.2 b) : h.R (b + 38) 1 = some (b + 62) := H.2 (38, 1, 62) (List.mem_of_getElem? (i := 43) rfl)
theorem rx_39_0 (H : LayX z h.2.2 b) : h.R (b + 39) 0 = some (b + 64) := H.2 (39, 0, 64) (List.mem_of_getElem? (i := 44) rfl)
theorem rx_39_1 (H : LayX z h.2.2 b) : h.R (b + 39) 1 = some (b + 66) := H.2 (39, 1, 66) (List.mem_of_getElem? (i := 45) rfl)
theorem rx_39_2 (H : LayX z h.2.2 b) : h.R (b + 39) 2 = some (b + 68) := H.2 (39, 2, 68) (List.mem_of_getElem? (i := 46) rfl)
theorem rx_39_3 (H : LayX z h.2.2 b) : h.R (b + 39) 3 = some (b + 70) := H.2 (39, 3, 70) (List.mem_of_getElem? (i := 47) rfl)
theorem rx_40_0 (H : LayX z h.2.2 b) : h.R (b + 40) 0 = some (b + 41) := H.2 (40, 0, 41) (List.mem_of_getElem? (i := 48) rfl)
theorem rx_40_1 (H : LayX z h.2.2 b) : h.R (b + 40) 1 = some (b + 42) := H.2 (40, 1, 42) (List.mem_of_getElem? (i := 49) rfl)
theorem rx_43_0 (H : LayX z h.2.2 b) : h.R (b + 43) 0 = some (b + 40) := H.2 (43, 0, 40) (List.mem_of_getElem? (i := 50) rfl)
theorem rx_44_0 (H : LayX z h.2.2 b) : h.R (b + 44) 0 = some (b + 40) := H.2 (44, 0, 40) (List.mem_of_getElem? (i := 51) rfl)
theorem rx_44_1 (H : LayX z h.2.2 b) : h.R (b + 44) 1 = some (b + 45) := H.2 (44, 1, 45) (List.mem_of_getElem? (i := 52) rfl)
theorem rx_44_2 (H : LayX z h.2.2 b) : h.R (b + 44) 2 = some (b + 46) := H.2 (44, 2, 46) (List.mem_of_getElem? (i := 53) rfl)
theorem rx_47_6 (H : LayX z h.2.2 b) : h.R (b + 47) 6 = some (b + 48) := H.2 (47, 6, 48) (List.mem_of_getElem? (i := 54) rfl)
theorem rx_47_7 (H : LayX z h.2.2 b) : h.R (b + 47) 7 = some (b + 49) := H.2 (47, 7, 49) (List.mem_of_getElem? (i := 55) rfl)
theorem rx_50_0 (H : LayX z h.2.2 b) : h.R (b + 50) 0 = some (b + 44) := H.2 (50, 0, 44) (List.mem_of_getElem? (i := 56) rfl)
theorem rx_50_1 (H : LayX z h.2.2 b) : h.R (b + 50) 1 = some (b + 51) := H.2 (50, 1, 51) (List.mem_of_getElem? (i := 57) rfl)
theorem rx_50_2 (H : LayX z h.2.2 b) : h.R (b + 50) 2 = some (b + 53) := H.2 (50, 2, 53) (List.mem_of_getElem? (i := 58) rfl)
theorem rx_50_3 (H : LayX z h.2.2 b) : h.R (b + 50) 3 = some (b + 54) := H.2 (50, 3, 54) (List.mem_of_getElem? (i := 59) rfl)
theorem rx_51_0 (H : LayX z h.2.2 b) : h.R (b + 51) 0 = some (b + 52) := H.2 (51, 0, 52) (List.mem_of_getElem? (i := 60) rfl)
theorem rx_55_0 (H : LayX z h.2.2 b) : h.R (b + 55) 0 = some (b + 44) := H.2 (55, 0, 44) (List.mem_of_getElem? (i := 61) rfl)
theorem rx_55_1 (H : LayX z h.2.2 b) : h.R (b + 55) 1 = some (b + 50) := H.2 (55, 1, 50) (List.mem_of_getElem? (i := 62) rfl)
theorem rx_55_2 (H : LayX z h.2.2 b) : h.R (b + 55) 2 = some (b + 56) := H.2 (55, 2, 56) (List.mem_of_getElem? (i := 63) rfl)
theorem rx_55_3 (H : LayX z h.2.2 b) : h.R (b + 55) 3 = some (b + 58) := H.2 (55, 3, 58) (List.mem_of_getElem? (i := 64) rfl)
theorem rx_56_0 (H : LayX z h.2.2 b) : h.R (b + 56) 0 = some (b + 57) := H.2 (56, 0, 57) (List.mem_of_getElem? (i := 65) rfl)
theorem rx_60_0 (H : LayX z h.2.2 b) : h.R (b + 60) 0 = some (b + 61) := H.2 (60, 0, 61) (List.mem_of_getElem? (i := 66) rfl)
theorem rx_62_0 (H : LayX z h.2.2 b) : h.R (b + 62) 0 = some (b + 63) := H.2 (62, 0, 63) (List.mem_of_getElem? (i := 67) rfl)
theorem rx_64_0 (H : LayX z h.2.2 b) : h.R (b + 64) 0 = some (b + 65) := H.2 (64, 0, 65) (List.mem_of_getElem? (i := 68) rfl)
theorem rx_66_0 (H : LayX z h.2.2 b) : h.R (b + 66) 0 = some (b + 67) := H.2 (66, 0, 67) (List.mem_of_getElem? (i := 69) rfl)
theorem rx_68_0 (H : LayX z h.2.2 b) : h.R (b + 68) 0 = some (b + 69) := H.2 (68, 0, 69) (List.mem_of_getElem? (i := 70) rfl)
theorem rx_70_0 (H : LayX z h.2.2 b) : h.R (b + 70) 0 = some (b + 71) := H.2 (70, 0, 71) (List.mem_of_getElem? (i := 71) rfl)
theorem km_0 (H : LayR z R (b + 72)) : z.K (b + 72) = 12 := (H.1 0 (by decide)).1
theorem km_1 (H : LayR z R (b + 72)) : z.K (b + 73) = 14 := (H.1 1 (by decide)).1
theorem nm_1 (H : LayR z R (b + 72)) : z.N (b + 73) = 4374 := (H.1 1 (by decide)).2
theorem km_2 (H : LayR z R (b + 72)) : z.K (b + 74) = 16 := (H.1 2 (by decide)).1
theorem nm_2 (H : LayR z R (b + 72)) : z.N (b + 74) = 2 := (H.1 2 (by decide)).2
theorem km_3 (H : LayR z R (b + 72)) : z.K (b + 75) = 14 := (H.1 3 (by decide)).1
theorem nm_3 (H : LayR z R (b + 72)) : z.N (b + 75) = 900 := (H.1 3 (by decide)).2
theorem km_4 (H : LayR z R (b + 72)) : z.K (b + 76) = 14 := (H.1 4 (by decide)).1
theorem nm_4 (H : LayR z R (b + 72)) : z.N (b + 76) = 1458 := (H.1 4 (by decide)).2
theorem km_5 (H : LayR z R (b + 72)) : z.K (b + 77) = 14 := (H.1 5 (by decide)).1
theorem nm_5 (H : LayR z R (b + 72)) : z.N (b + 77) = 900 := (H.1 5 (by decide)).2
theorem km_6 (H : LayR z R (b + 72)) : z.K (b + 78) = 14 := (H.1 6 (by decide)).1
theorem nm_6 (H : LayR z R (b + 72)) : z.N (b + 78) = 7 := (H.1 6 (by decide)).2
theorem km_7 (H : LayR z R (b + 72)) : z.K (b + 79) = 14 := (H.1 7 (by decide)).1
theorem nm_7 (H : LayR z R (b + 72)) : z.N (b + 79) = 49 := (H.1 7 (by decide)).2
theorem km_8 (H : LayR z R (b + 72)) : z.K (b + 80) = 14 := (H.1 8 (by decide)).1
theorem nm_8 (H : LayR z R (b + 72)) : z.N (b + 80) = 3430 := (H.1 8 (by decide)).2
theorem km_9 (H : LayR z R (b + 72)) : z.K (b + 81) = 14 := (H.1 9 (by decide)).1
theorem nm_9 (H : LayR z R (b + 72)) : z.N (b + 81) = 3430 := (H.1 9 (by decide)).2
theorem km_10 (H : LayR z R (b + 72)) : z.K (b + 82) = 15 := (H.1 10 (by decide)).1
theorem nm_10 (H : LayR z R (b + 72)) : z.N (b + 82) = 3430 := (H.1 10 (by decide)).2
theorem km_11 (H : LayR z R (b + 72)) : z.K (b + 83) = 16 := (H.1 11 (by decide)).1
theorem nm_11 (H : LayR z R (b + 72)) : z.N (b + 83) = 3430 := (H.1 11 (by decide)).2
theorem km_12 (H : LayR z R (b + 72)) : z.K (b + 84) = 14 := (H.1 12 (by decide)).1
theorem nm_12 (H : LayR z R (b + 72)) : z.N (b + 84) = 3430 := (H.1 12 (by decide)).2
theorem km_13 (H : LayR z R (b + 72)) : z.K (b + 85) = 14 := (H.1 13 (by decide)).1
theorem nm_13 (H : LayR z R (b + 72)) : z.N (b + 85) = 3430 := (H.1 13 (by decide)).2
theorem km_14 (H : LayR z R (b + 72)) : z.K (b + 86) = 15 := (H.1 14 (by decide)).1
theorem nm_14 (H : LayR z R (b + 72)) : z.N (b + 86) = 3430 := (H.1 14 (by decide)).2
theorem km_15 (H : LayR z R (b + 72)) : z.K (b + 87) = 15 := (H.1 15 (by decide)).1
theorem nm_15 (H : LayR z R (b + 72)) : z.N (b + 87) = 373870 := (H.1 15 (by decide)).2
theorem km_16 (H : LayR z R (b + 72)) : z.K (b + 88) = 14 := (H.1 16 (by decide)).1
theorem nm_16 (H : LayR z R (b + 72)) : z.N (b + 88) = 19 := (H.1 16 (by decide)).2
theorem km_17 (H : LayR z R (b + 72)) : z.K (b + 89) = 14 := (H.1 17 (by decide)).1
theorem nm_17 (H : LayR z R (b + 72)) : z.N (b + 89) = 4 := (H.1 17 (by decide)).2
theorem km_18 (H : LayR z R (b + 72)) : z.K (b + 90) = 14 := (H.1 18 (by decide)).1
theorem nm_18 (H : LayR z R (b + 72)) : z.N (b + 90) = 4 := (H.1 18 (by decide)).2
theorem km_19 (H : LayR z R (b + 72)) : z.K (b + 91) = 15 := (H.1 19 (by decide)).1
theorem nm_19 (H : LayR z R (b + 72)) : z.N (b + 91) = 160 := (H.1 19 (by decide)).2
theorem rm_1 (H : LayR z h.2.2 (b + 72)) : h.R (b + 72) 1 = some (b + 73) := H.2 (0, 1, 1) (List.mem_of_getElem? (i := 0) rfl)
theorem rm_2 (H : LayR z h.2.2 (b + 72)) : h.R (b + 72) 2 = some (b + 74) := H.2 (0, 2, 2) (List.mem_of_getElem? (i := 1) rfl)
theorem rm_3 (H : LayR z h.2.2 (b + 72)) : h.R (b + 72) 3 = some (b + 75) := H.2 (0, 3, 3) (List.mem_of_getElem? (i := 2) rfl)
theorem rm_4 (H : LayR z h.2.2 (b + 72)) : h.R (b + 72) 4 = some (b + 76) := H.2 (0, 4, 4) (List.mem_of_getElem? (i := 3) rfl)
theorem rm_16 (H : LayR z h.2.2 (b + 72)) : h.R (b + 72) 16 = some (b + 77) := H.2 (0, 16, 5) (List.mem_of_getElem? (i := 4) rfl)
theorem rm_17 (H : LayR z h.2.2 (b + 72)) : h.R (b + 72) 17 = some (b + 78) := H.2 (0, 17, 6) (List.mem_of_getElem? (i := 5) rfl)
theorem rm_18 (H : LayR z h.2.2 (b + 72)) : h.R (b + 72) 18 = some (b + 79) := H.2 (0, 18, 7) (List.mem_of_getElem? (i := 6) rfl)
theorem rm_21 (H : LayR z h.2.2 (b + 72)) : h.R (b + 72) 21 = some (b + 80) := H.2 (0, 21, 8) (List.mem_of_getElem? (i := 7) rfl)
theorem rm_22 (H : LayR z h.2.2 (b + 72)) : h.R (b + 72) 22 = some (b + 81) := H.2 (0, 22, 9) (List.mem_of_getElem? (i := 8) rfl)
theorem rm_23 (H : LayR z h.2.2 (b + 72)) : h.R (b + 72) 23 = some (b + 82) := H.2 (0, 23, 10) (List.mem_of_getElem? (i := 9) rfl)
theorem rm_24 (H : LayR z h.2.2 (b + 72)) : h.R (b + 72) 24 = some (b + 83) := H.2 (0, 24, 11) (List.mem_of_getElem? (i := 10) rfl)
theorem rm_27 (H : LayR z h.2.2 (b + 72)) : h.R (b + 72) 27 = some (b + 84) := H.2 (0, 27, 12) (List.mem_of_getElem? (i := 11) rfl)
theorem rm_28 (H : LayR z h.2.2 (b + 72)) : h.R (b + 72) 28 = some (b + 85) := H.2 (0, 28, 13) (List.mem_of_getElem? (i := 12) rfl)
theorem rm_29 (H : LayR z h.2.2 (b + 72)) : h.R (b + 72) 29 = some (b + 86) := H.2 (0, 29, 14) (List.mem_of_getElem? (i := 13) rfl)
theorem rm_30 (H : LayR z h.2.2 (b + 72)) : h.R (b + 72) 30 = some (b + 87) := H.2 (0, 30, 15) (List.mem_of_getElem? (i := 14) rfl)
theorem rm_31 (H : LayR z h.2.2 (b + 72)) : h.R (b + 72) 31 = some (b + 88) := H.2 (0, 31, 16) (List.mem_of_getElem? (i := 15) rfl)
theorem rm_33 (H : LayR z h.2.2 (b + 72)) : h.R (b + 72) 33 = some (b + 89) := H.2 (0, 33, 17) (List.mem_of_getElem? (i := 16) rfl)
theorem rm_34 (H : LayR z h.2.2 (b + 72)) : h.R (b + 72) 34 = some (b + 90) := H.2 (0, 34, 18) (List.mem_of_getElem? (i := 17) rfl)
theorem rm_35 (H : LayR z h.2.2 (b + 72)) : h.R (b + 72) 35 = some (b + 91) := H.2 (0, 35, 19) (List.mem_of_getElem? (i := 18) rfl)
theorem lx_1 (H : LayX z R b) {j : Nat} (hj : j < 900) : ldB z h (b + 1) (nI j) = some (h.I (b + 1) j) := ldB_ok (Or.inl (kx_1 H)) (nx_1 H) rfl hj (by decide)
theorem sx_1 (H : LayX z R b) {j : Nat} {x : Int32} (hj : j < 900) : stB z h (b + 1) (nI j) x = some (h.setI (b + 1) j (vp_nar .byte x)) := stB_ok (kx_1 H) (nx_1 H) rfl hj (by decide)
theorem lx_3 (H : LayX z R b) {j : Nat} (hj : j < 0) : ldB z h (b + 3) (nI j) = some (h.I (b + 3) j) := ldB_ok (Or.inl (kx_3 H)) (nx_3 H) rfl hj (by decide)
theorem sx_3 (H : LayX z R b) {j : Nat} {x : Int32} (hj : j < 0) : stB z h (b + 3) (nI j) x = some (h.setI (b + 3) j (vp_nar .byte x)) := stB_ok (kx_3 H) (nx_3 H) rfl hj (by decide)
theorem lx_5 (H : LayX z R b) {j : Nat} (hj : j < 6) : ldI z h (b + 5) (nI j) = some (h.I (b + 5) j) := ldI_ok (kx_5 H) (nx_5 H) rfl hj (by decide)
theorem sx_5 (H : LayX z R b) {j : Nat} {x : Int32} (hj : j < 6) : stI z h (b + 5) (nI j) x = some (h.setI (b + 5) j x) := stI_ok (kx_5 H) (nx_5 H) rfl hj (by decide)
theorem lx_6 (H : LayX z R b) {j : Nat} (hj : j < 6) : ldI z h (b + 6) (nI j) = some (h.I (b + 6) j) := ldI_ok (kx_6 H) (nx_6 H) rfl hj (by decide)
theorem sx_6 (H : LayX z R b) {j : Nat} {x : Int32} (hj : j < 6) : stI z h (b + 6) (nI j) x = some (h.setI (b + 6) j x) := stI_ok (kx_6 H) (nx_6 H) rfl hj (by decide)
theorem lx_7 (H : LayX z R b) {j : Nat} (hj : j < 900) : ldI z h (b + 7) (nI j) = some (h.I (b + 7) j) := ldI_ok (kx_7 H) (nx_7 H) rfl hj (by decide)
theorem sx_7 (H : LayX z R b) {j : Nat} {x : Int32} (hj : j < 900) : stI z h (b + 7) (nI j) x = some (h.setI (b + 7) j x) := stI_ok (kx_7 H) (nx_7 H) rfl hj (by decide)
theorem lx_9 (H : LayX z R b) {j : Nat} (hj : j < 6) : ldI z h (b + 9) (nI j) = some (h.I (b + 9) j) := ldI_ok (kx_9 H) (nx_9 H) rfl hj (by decide)
theorem sx_9 (H : LayX z R b) {j : Nat} {x : Int32} (hj : j < 6) : stI z h (b + 9) (nI j) x = some (h.setI (b + 9) j x) := stI_ok (kx_9 H) (nx_9 H) rfl hj (by decide)
theorem lx_10 (H : LayX z R b) {j : Nat} (hj : j < 6) : ldI z h (b + 10) (nI j) = some (h.I (b + 10) j) := ldI_ok (kx_10 H) (nx_10 H) rfl hj (by decide)
theorem sx_10 (H : LayX z R b) {j : Nat} {x : Int32} (hj : j < 6) : stI z h (b + 10) (nI j) x = some (h.setI (b + 10) j x) := stI_ok (kx_10 H) (nx_10 H) rfl hj (by decide)
theorem lx_12 (H : LayX z R b) {j : Nat} (hj : j < 54) : ldI z h (b + 12) (nI j) = some (h.I (b + 12) j) := ldI_ok (kx_12 H) (nx_12 H) rfl hj (by decide)
theorem sx_12 (H : LayX z R b) {j : Nat} {x : Int32} (hj : j < 54) : stI z h (b + 12) (nI j) x = some (h.setI (b + 12) j x) := stI_ok (kx_12 H) (nx_12 H) rfl hj (by decide)
theorem lx_14 (H : LayX z R b) {j : Nat} (hj : j < 54) : ldI z h (b + 14) (nI j) = some (h.I (b + 14) j) := ldI_ok (kx_14 H) (nx_14 H) rfl hj (by decide)
theorem sx_14 (H : LayX z R b) {j : Nat} {x : Int32} (hj : j < 54) : stI z h (b + 14) (nI j) x = some (h.setI (b + 14) j x) := stI_ok (kx_14 H) (nx_14 H) rfl hj (by decide)
theorem lx_18 (H : LayX z R b) {j : Nat} (hj : j < 54) : ldI z h (b + 18) (nI j) = some (h.I (b + 18) j) := ldI_ok (kx_18 H) (nx_18 H) rfl hj (by decide)
theorem sx_18 (H : LayX z R b) {j : Nat} {x : Int32} (hj : j < 54) : stI z h (b + 18) (nI j) x = some (h.setI (b + 18) j x) := stI_ok (kx_18 H) (nx_18 H) rfl hj (by decide)
theorem lx_20 (H : LayX z R b) {j : Nat} (hj : j < 54) : ldI z h (b + 20) (nI j) = some (h.I (b + 20) j) := ldI_ok (kx_20 H) (nx_20 H) rfl hj (by decide)
theorem sx_20 (H : LayX z R b) {j : Nat} {x : Int32} (hj : j < 54) : stI z h (b + 20) (nI j) x = some (h.setI (b + 20) j x) := stI_ok (kx_20 H) (nx_20 H) rfl hj (by decide)
theorem lx_22 (H : LayX z R b) {j : Nat} (hj : j < 54) : ldI z h (b + 22) (nI j) = some (h.I (b + 22) j) := ldI_ok (kx_22 H) (nx_22 H) rfl hj (by decide)
theorem sx_22 (H : LayX z R b) {j : Nat} {x : Int32} (hj : j < 54) : stI z h (b + 22) (nI j) x = some (h.setI (b + 22) j x) := stI_ok (kx_22 H) (nx_22 H) rfl hj (by decide)
theorem lx_24 (H : LayX z R b) {j : Nat} (hj : j < 54) : ldI z h (b + 24) (nI j) = some (h.I (b + 24) j) := ldI_ok (kx_24 H) (nx_24 H) rfl hj (by decide)
theorem sx_24 (H : LayX z R b) {j : Nat} {x : Int32} (hj : j < 54) : stI z h (b + 24) (nI j) x = some (h.setI (b + 24) j x) := stI_ok (kx_24 H) (nx_24 H) rfl hj (by decide)
theorem lx_26 (H : LayX z R b) {j : Nat} (hj : j < 54) : ldI z h (b + 26) (nI j) = some (h.I (b + 26) j) := ldI_ok (kx_26 H) (nx_26 H) rfl hj (by decide)
theorem sx_26 (H : LayX z R b) {j : Nat} {x : Int32} (hj : j < 54) : stI z h (b + 26) (nI j) x = some (h.setI (b + 26) j x) := stI_ok (kx_26 H) (nx_26 H) rfl hj (by decide)
theorem lx_28 (H : LayX z R b) {j : Nat} (hj : j < 54) : ldI z h (b + 28) (nI j) = some (h.I (b + 28) j) := ldI_ok (kx_28 H) (nx_28 H) rfl hj (by decide)
theorem sx_28 (H : LayX z R b) {j : Nat} {x : Int32} (hj : j < 54) : stI z h (b + 28) (nI j) x = some (h.setI (b + 28) j x) := stI_ok (kx_28 H) (nx_28 H) rfl hj (by decide)
theorem lx_30 (H : LayX z R b) {j : Nat} (hj : j < 54) : ldI z h (b + 30) (nI j) = some (h.I (b + 30) j) := ldI_ok (kx_30 H) (nx_30 H) rfl hj (by decide)
theorem sx_30 (H : LayX z R b) {j : Nat} {x : Int32} (hj : j < 54) : stI z h (b + 30) (nI j) x = some (h.setI (b + 30) j x) := stI_ok (kx_30 H) (nx_30 H) rfl hj (by decide)
theorem lx_32 (H : LayX z R b) {j : Nat} (hj : j < 54) : ldI z h (b + 32) (nI j) = some (h.I (b + 32) j) := ldI_ok (kx_32 H) (nx_32 H) rfl hj (by decide)
theorem sx_32 (H : LayX z R b) {j : Nat} {x : Int32} (hj : j < 54) : stI z h (b + 32) (nI j) x = some (h.setI (b + 32) j x) := stI_ok (kx_32 H) (nx_32 H) rfl hj (by decide)
theorem lx_34 (H : LayX z R b) {j : Nat} (hj : j < 54) : ldI z h (b + 34) (nI j) = some (h.I (b + 34) j) := ldI_ok (kx_34 H) (nx_34 H) rfl hj (by decide)
theorem sx_34 (H : LayX z R b) {j : Nat} {x : Int32} (hj : j < 54) : stI z h (b + 34) (nI j) x = some (h.setI (b + 34) j x) := stI_ok (kx_34 H) (nx_34 H) rfl hj (by decide)
theorem lx_36 (H : LayX z R b) {j : Nat} (hj : j < 54) : ldI z h (b + 36) (nI j) = some (h.I (b + 36) j) := ldI_ok (kx_36 H) (nx_36 H) rfl hj (by decide)
theorem sx_36 (H : LayX z R b) {j : Nat} {x : Int32} (hj : j < 54) : stI z h (b + 36) (nI j) x = some (h.setI (b + 36) j x) := stI_ok (kx_36 H) (nx_36 H) rfl hj (by decide)
theorem lx_41 (H : LayX z R b) {j : Nat} (hj : j < 7) : ldI z h (b + 41) (nI j) = some (h.I (b + 41) j) := ldI_ok (kx_41 H) (nx_41 H) rfl hj (by decide)
theorem sx_41 (H : LayX z R b) {j : Nat} {x : Int32} (hj : j < 7) : stI z h (b + 41) (nI j) x = some (h.setI (b + 41) j x) := stI_ok (kx_41 H) (nx_41 H) rfl hj (by decide)
theorem lx_42 (H : LayX z R b) {j : Nat} (hj : j < 64) : ldI z h (b + 42) (nI j) = some (h.I (b + 42) j) := ldI_ok (kx_42 H) (nx_42 H) rfl hj (by decide)
theorem sx_42 (H : LayX z R b) {j : Nat} {x : Int32} (hj : j < 64) : stI z h (b + 42) (nI j) x = some (h.setI (b + 42) j x) := stI_ok (kx_42 H) (nx_42 H) rfl hj (by decide)
theorem lx_46 (H : LayX z R b) {j : Nat} (hj : j < 7) : ldI z h (b + 46) (nI j) = some (h.I (b + 46) j) := ldI_ok (kx_46 H) (nx_46 H) rfl hj (by decide)
theorem sx_46 (H : LayX z R b) {j : Nat} {x : Int32} (hj : j < 7) : stI z h (b + 46) (nI j) x = some (h.setI (b + 46) j x) := stI_ok (kx_46 H) (nx_46 H) rfl hj (by decide)
theorem lx_48 (H : LayX z R b) {j : Nat} (hj : j < 6) : ldI z h (b + 48) (nI j) = some (h.I (b + 48) j) := ldI_ok (kx_48 H) (nx_48 H) rfl hj (by decide)
theorem sx_48 (H : LayX z R b) {j : Nat} {x : Int32} (hj : j < 6) : stI z h (b + 48) (nI j) x = some (h.setI (b + 48) j x) := stI_ok (kx_48 H) (nx_48 H) rfl hj (by decide)
theorem lx_49 (H : LayX z R b) {j : Nat} (hj : j < 6) : ldI z h (b + 49) (nI j) = some (h.I (b + 49) j) := ldI_ok (kx_49 H) (nx_49 H) rfl hj (by decide)
theorem sx_49 (H : LayX z R b) {j : Nat} {x : Int32} (hj : j < 6) : stI z h (b + 49) (nI j) x = some (h.setI (b + 49) j x) := stI_ok (kx_49 H) (nx_49 H) rfl hj (by decide)
theorem lx_52 (H : LayX z R b) {j : Nat} (hj : j < 1400) : ldJ z h (b + 52) (nI j) = some (h.J (b + 52) j) := ldJ_ok (Or.inl (kx_52 H)) (nx_52 H) rfl hj (by decide)
theorem sx_52 (H : LayX z R b) {j : Nat} {x : Int64} (hj : j < 1400) : stJ z h (b + 52) (nI j) x = some (h.setJ (b + 52) j x) := stJ_ok (kx_52 H) (nx_52 H) rfl hj (by decide)
theorem lx_53 (H : LayX z R b) {j : Nat} (hj : j < 1400) : ldI z h (b + 53) (nI j) = some (h.I (b + 53) j) := ldI_ok (kx_53 H) (nx_53 H) rfl hj (by decide)
theorem sx_53 (H : LayX z R b) {j : Nat} {x : Int32} (hj : j < 1400) : stI z h (b + 53) (nI j) x = some (h.setI (b + 53) j x) := stI_ok (kx_53 H) (nx_53 H) rfl hj (by decide)
theorem lx_54 (H : LayX z R b) {j : Nat} (hj : j < 1400) : ldI z h (b + 54) (nI j) = some (h.I (b + 54) j) := ldI_ok (kx_54 H) (nx_54 H) rfl hj (by decide)
theorem sx_54 (H : LayX z R b) {j : Nat} {x : Int32} (hj : j < 1400) : stI z h (b + 54) (nI j) x = some (h.setI (b + 54) j x) := stI_ok (kx_54 H) (nx_54 H) rfl hj (by decide)
theorem lx_57 (H : LayX z R b) {j : Nat} (hj : j < 1400) : ldJ z h (b + 57) (nI j) = some (h.J (b + 57) j) := ldJ_ok (Or.inl (kx_57 H)) (nx_57 H) rfl hj (by decide)
theorem sx_57 (H : LayX z R b) {j : Nat} {x : Int64} (hj : j < 1400) : stJ z h (b + 57) (nI j) x = some (h.setJ (b + 57) j x) := stJ_ok (kx_57 H) (nx_57 H) rfl hj (by decide)
theorem lx_58 (H : LayX z R b) {j : Nat} (hj : j < 1400) : ldI z h (b + 58) (nI j) = some (h.I (b + 58) j) := ldI_ok (kx_58 H) (nx_58 H) rfl hj (by decide)
theorem sx_58 (H : LayX z R b) {j : Nat} {x : Int32} (hj : j < 1400) : stI z h (b + 58) (nI j) x = some (h.setI (b + 58) j x) := stI_ok (kx_58 H) (nx_58 H) rfl hj (by decide)
theorem lx_59 (H : LayX z R b) {j : Nat} (hj : j < 19) : ldI z h (b + 59) (nI j) = some (h.I (b + 59) j) := ldI_ok (kx_59 H) (nx_59 H) rfl hj (by decide)
theorem sx_59 (H : LayX z R b) {j : Nat} {x : Int32} (hj : j < 19) : stI z h (b + 59) (nI j) x = some (h.setI (b + 59) j x) := stI_ok (kx_59 H) (nx_59 H) rfl hj (by decide)
theorem lx_61 (H : LayX z R b) {j : Nat} (hj : j < 54) : ldI z h (b + 61) (nI j) = some (h.I (b + 61) j) := ldI_ok (kx_61 H) (nx_61 H) rfl hj (by decide)
theorem sx_61 (H : LayX z R b) {j : Nat} {x : Int32} (hj : j < 54) : stI z h (b + 61) (nI j) x = some (h.setI (b + 61) j x) := stI_ok (kx_61 H) (nx_61 H) rfl hj (by decide)
theorem lx_63 (H : LayX z R b) {j : Nat} (hj : j < 54) : ldI z h (b + 63) (nI j) = some (h.I (b + 63) j) := ldI_ok (kx_63 H) (nx_63 H) rfl hj (by decide)
theorem sx_63 (H : LayX z R b) {j : Nat} {x : Int32} (hj : j < 54) : stI z h (b + 63) (nI j) x = some (h.setI (b + 63) j x) := stI_ok (kx_63 H) (nx_63 H) rfl hj (by decide)
theorem lx_65 (H : LayX z R b) {j : Nat} (hj : j < 40) : ldJ z h (b + 65) (nI j) = some (h.J (b + 65) j) := ldJ_ok (Or.inl (kx_65 H)) (nx_65 H) rfl hj (by decide)
theorem sx_65 (H : LayX z R b) {j : Nat} {x : Int64} (hj : j < 40) : stJ z h (b + 65) (nI j) x = some (h.setJ (b + 65) j x) := stJ_ok (kx_65 H) (nx_65 H) rfl hj (by decide)
theorem lx_67 (H : LayX z R b) {j : Nat} (hj : j < 40) : ldJ z h (b + 67) (nI j) = some (h.J (b + 67) j) := ldJ_ok (Or.inl (kx_67 H)) (nx_67 H) rfl hj (by decide)
theorem sx_67 (H : LayX z R b) {j : Nat} {x : Int64} (hj : j < 40) : stJ z h (b + 67) (nI j) x = some (h.setJ (b + 67) j x) := stJ_ok (kx_67 H) (nx_67 H) rfl hj (by decide)
theorem lx_69 (H : LayX z R b) {j : Nat} (hj : j < 40) : ldJ z h (b + 69) (nI j) = some (h.J (b + 69) j) := ldJ_ok (Or.inl (kx_69 H)) (nx_69 H) rfl hj (by decide)
theorem sx_69 (H : LayX z R b) {j : Nat} {x : Int64} (hj : j < 40) : stJ z h (b + 69) (nI j) x = some (h.setJ (b + 69) j x) := stJ_ok (kx_69 H) (nx_69 H) rfl hj (by decide)
theorem lx_71 (H : LayX z R b) {j : Nat} (hj : j < 40) : ldJ z h (b + 71) (nI j) = some (h.J (b + 71) j) := ldJ_ok (Or.inl (kx_71 H)) (nx_71 H) rfl hj (by decide)
theorem sx_71 (H : LayX z R b) {j : Nat} {x : Int64} (hj : j < 40) : stJ z h (b + 71) (nI j) x = some (h.setJ (b + 71) j x) := stJ_ok (kx_71 H) (nx_71 H) rfl hj (by decide)
theorem lm_1 (H : LayR z R (b + 72)) {j : Nat} (hj : j < 4374) : ldI z h (b + 73) (nI j) = some (h.I (b + 73) j) := ldI_ok (km_1 H) (nm_1 H) rfl hj (by decide)
theorem sm_1 (H : LayR z R (b + 72)) {j : Nat} {x : Int32} (hj : j < 4374) : stI z h (b + 73) (nI j) x = some (h.setI (b + 73) j x) := stI_ok (km_1 H) (nm_1 H) rfl hj (by decide)
theorem lm_2 (H : LayR z R (b + 72)) {j : Nat} (hj : j < 2) : ldZ z h (b + 74) (nI j) = some (h.I (b + 74) j) := ldZ_ok (km_2 H) (nm_2 H) rfl hj (by decide)
theorem sm_2 (H : LayR z R (b + 72)) {j : Nat} {x : Int32} (hj : j < 2) : stZ z h (b + 74) (nI j) x = some (h.setI (b + 74) j (vp_nar .boolean x)) := stZ_ok (km_2 H) (nm_2 H) rfl hj (by decide)
theorem lm_3 (H : LayR z R (b + 72)) {j : Nat} (hj : j < 900) : ldI z h (b + 75) (nI j) = some (h.I (b + 75) j) := ldI_ok (km_3 H) (nm_3 H) rfl hj (by decide)
theorem sm_3 (H : LayR z R (b + 72)) {j : Nat} {x : Int32} (hj : j < 900) : stI z h (b + 75) (nI j) x = some (h.setI (b + 75) j x) := stI_ok (km_3 H) (nm_3 H) rfl hj (by decide)
theorem lm_4 (H : LayR z R (b + 72)) {j : Nat} (hj : j < 1458) : ldI z h (b + 76) (nI j) = some (h.I (b + 76) j) := ldI_ok (km_4 H) (nm_4 H) rfl hj (by decide)
theorem sm_4 (H : LayR z R (b + 72)) {j : Nat} {x : Int32} (hj : j < 1458) : stI z h (b + 76) (nI j) x = some (h.setI (b + 76) j x) := stI_ok (km_4 H) (nm_4 H) rfl hj (by decide)
theorem lm_5 (H : LayR z R (b + 72)) {j : Nat} (hj : j < 900) : ldI z h (b + 77) (nI j) = some (h.I (b + 77) j) := ldI_ok (km_5 H) (nm_5 H) rfl hj (by decide)
theorem sm_5 (H : LayR z R (b + 72)) {j : Nat} {x : Int32} (hj : j < 900) : stI z h (b + 77) (nI j) x = some (h.setI (b + 77) j x) := stI_ok (km_5 H) (nm_5 H) rfl hj (by decide)
theorem lm_6 (H : LayR z R (b + 72)) {j : Nat} (hj : j < 7) : ldI z h (b + 78) (nI j) = some (h.I (b + 78) j) := ldI_ok (km_6 H) (nm_6 H) rfl hj (by decide)
theorem sm_6 (H : LayR z R (b + 72)) {j : Nat} {x : Int32} (hj : j < 7) : stI z h (b + 78) (nI j) x = some (h.setI (b + 78) j x) := stI_ok (km_6 H) (nm_6 H) rfl hj (by decide)
theorem lm_7 (H : LayR z R (b + 72)) {j : Nat} (hj : j < 49) : ldI z h (b + 79) (nI j) = some (h.I (b + 79) j) := ldI_ok (km_7 H) (nm_7 H) rfl hj (by decide)
theorem sm_7 (H : LayR z R (b + 72)) {j : Nat} {x : Int32} (hj : j < 49) : stI z h (b + 79) (nI j) x = some (h.setI (b + 79) j x) := stI_ok (km_7 H) (nm_7 H) rfl hj (by decide)
theorem lm_8 (H : LayR z R (b + 72)) {j : Nat} (hj : j < 3430) : ldI z h (b + 80) (nI j) = some (h.I (b + 80) j) := ldI_ok (km_8 H) (nm_8 H) rfl hj (by decide)
theorem sm_8 (H : LayR z R (b + 72)) {j : Nat} {x : Int32} (hj : j < 3430) : stI z h (b + 80) (nI j) x = some (h.setI (b + 80) j x) := stI_ok (km_8 H) (nm_8 H) rfl hj (by decide)
theorem lm_9 (H : LayR z R (b + 72)) {j : Nat} (hj : j < 3430) : ldI z h (b + 81) (nI j) = some (h.I (b + 81) j) := ldI_ok (km_9 H) (nm_9 H) rfl hj (by decide)
theorem sm_9 (H : LayR z R (b + 72)) {j : Nat} {x : Int32} (hj : j < 3430) : stI z h (b + 81) (nI j) x = some (h.setI (b + 81) j x) := stI_ok (km_9 H) (nm_9 H) rfl hj (by decide)
theorem lm_10 (H : LayR z R (b + 72)) {j : Nat} (hj : j < 3430) : ldJ z h (b + 82) (nI j) = some (h.J (b + 82) j) := ldJ_ok (Or.inl (km_10 H)) (nm_10 H) rfl hj (by decide)
theorem sm_10 (H : LayR z R (b + 72)) {j : Nat} {x : Int64} (hj : j < 3430) : stJ z h (b + 82) (nI j) x = some (h.setJ (b + 82) j x) := stJ_ok (km_10 H) (nm_10 H) rfl hj (by decide)
theorem lm_11 (H : LayR z R (b + 72)) {j : Nat} (hj : j < 3430) : ldZ z h (b + 83) (nI j) = some (h.I (b + 83) j) := ldZ_ok (km_11 H) (nm_11 H) rfl hj (by decide)
theorem sm_11 (H : LayR z R (b + 72)) {j : Nat} {x : Int32} (hj : j < 3430) : stZ z h (b + 83) (nI j) x = some (h.setI (b + 83) j (vp_nar .boolean x)) := stZ_ok (km_11 H) (nm_11 H) rfl hj (by decide)
theorem lm_12 (H : LayR z R (b + 72)) {j : Nat} (hj : j < 3430) : ldI z h (b + 84) (nI j) = some (h.I (b + 84) j) := ldI_ok (km_12 H) (nm_12 H) rfl hj (by decide)
theorem sm_12 (H : LayR z R (b + 72)) {j : Nat} {x : Int32} (hj : j < 3430) : stI z h (b + 84) (nI j) x = some (h.setI (b + 84) j x) := stI_ok (km_12 H) (nm_12 H) rfl hj (by decide)
theorem lm_13 (H : LayR z R (b + 72)) {j : Nat} (hj : j < 3430) : ldI z h (b + 85) (nI j) = some (h.I (b + 85) j) := ldI_ok (km_13 H) (nm_13 H) rfl hj (by decide)
theorem sm_13 (H : LayR z R (b + 72)) {j : Nat} {x : Int32} (hj : j < 3430) : stI z h (b + 85) (nI j) x = some (h.setI (b + 85) j x) := stI_ok (km_13 H) (nm_13 H) rfl hj (by decide)
theorem lm_14 (H : LayR z R (b + 72)) {j : Nat} (hj : j < 3430) : ldJ z h (b + 86) (nI j) = some (h.J (b + 86) j) := ldJ_ok (Or.inl (km_14 H)) (nm_14 H) rfl hj (by decide)
theorem sm_14 (H : LayR z R (b + 72)) {j : Nat} {x : Int64} (hj : j < 3430) : stJ z h (b + 86) (nI j) x = some (h.setJ (b + 86) j x) := stJ_ok (km_14 H) (nm_14 H) rfl hj (by decide)
theorem lm_15 (H : LayR z R (b + 72)) {j : Nat} (hj : j < 373870) : ldJ z h (b + 87) (nI j) = some (h.J (b + 87) j) := ldJ_ok (Or.inl (km_15 H)) (nm_15 H) rfl hj (by decide)
theorem sm_15 (H : LayR z R (b + 72)) {j : Nat} {x : Int64} (hj : j < 373870) : stJ z h (b + 87) (nI j) x = some (h.setJ (b + 87) j x) := stJ_ok (km_15 H) (nm_15 H) rfl hj (by decide)
theorem lm_16 (H : LayR z R (b + 72)) {j : Nat} (hj : j < 19) : ldI z h (b + 88) (nI j) = some (h.I (b + 88) j) := ldI_ok (km_16 H) (nm_16 H) rfl hj (by decide)
theorem sm_16 (H : LayR z R (b + 72)) {j : Nat} {x : Int32} (hj : j < 19) : stI z h (b + 88) (nI j) x = some (h.setI (b + 88) j x) := stI_ok (km_16 H) (nm_16 H) rfl hj (by decide)
theorem lm_17 (H : LayR z R (b + 72)) {j : Nat} (hj : j < 4) : ldI z h (b + 89) (nI j) = some (h.I (b + 89) j) := ldI_ok (km_17 H) (nm_17 H) rfl hj (by decide)
theorem sm_17 (H : LayR z R (b + 72)) {j : Nat} {x : Int32} (hj : j < 4) : stI z h (b + 89) (nI j) x = some (h.setI (b + 89) j x) := stI_ok (km_17 H) (nm_17 H) rfl hj (by decide)
theorem lm_18 (H : LayR z R (b + 72)) {j : Nat} (hj : j < 4) : ldI z h (b + 90) (nI j) = some (h.I (b + 90) j) := ldI_ok (km_18 H) (nm_18 H) rfl hj (by decide)
theorem sm_18 (H : LayR z R (b + 72)) {j : Nat} {x : Int32} (hj : j < 4) : stI z h (b + 90) (nI j) x = some (h.setI (b + 90) j x) := stI_ok (km_18 H) (nm_18 H) rfl hj (by decide)
theorem lm_19 (H : LayR z R (b + 72)) {j : Nat} (hj : j < 160) : ldJ z h (b + 91) (nI j) = some (h.J (b + 91) j) := ldJ_ok (Or.inl (km_19 H)) (nm_19 H) rfl hj (by decide)
theorem sm_19 (H : LayR z R (b + 72)) {j : Nat} {x : Int64} (hj : j < 160) : stJ z h (b + 91) (nI j) x = some (h.setJ (b + 91) j x) := stJ_ok (km_19 H) (nm_19 H) rfl hj (by decide)
end

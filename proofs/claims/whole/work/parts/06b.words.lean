/-! ===== the words that every method takes along ===== -/
def ns_Gt : List Cond := lw_tbl.filter goodWord
abbrev ns_w (k : Nat) : List Cond := Cond.code (ns_y k) (ns_c k) (ns_m k) (ns_r k) :: ns_Gt
theorem ns_Gt_good : ∀ w ∈ ns_Gt, w ∈ lw_tbl ∧ goodWord w = true := fun _ h => ⟨(List.mem_filter.mp h).1, (List.mem_filter.mp h).2⟩
theorem ns_in_Gt {w : Cond} (h : w ∈ lw_tbl) (hg : goodWord w = true) : w ∈ ns_Gt := List.mem_filter.mpr ⟨h, hg⟩
set_option maxRecDepth 100000 in
theorem ns_cw_0 : Cond.code (ns_y 0) (ns_c 0) (ns_m 0) (ns_r 0) ∈ ns_Gt := ns_in_Gt (List.mem_append_right _ (List.mem_of_getElem? (i := 267) rfl)) rfl
set_option maxRecDepth 100000 in
theorem ns_cw_1 : Cond.code (ns_y 1) (ns_c 1) (ns_m 1) (ns_r 1) ∈ ns_Gt := ns_in_Gt (List.mem_append_right _ (List.mem_of_getElem? (i := 276) rfl)) rfl
set_option maxRecDepth 100000 in
theorem ns_cw_2 : Cond.code (ns_y 2) (ns_c 2) (ns_m 2) (ns_r 2) ∈ ns_Gt := ns_in_Gt (List.mem_append_right _ (List.mem_of_getElem? (i := 295) rfl)) rfl
set_option maxRecDepth 100000 in
theorem ns_cw_3 : Cond.code (ns_y 3) (ns_c 3) (ns_m 3) (ns_r 3) ∈ ns_Gt := ns_in_Gt (List.mem_append_right _ (List.mem_of_getElem? (i := 280) rfl)) rfl
set_option maxRecDepth 100000 in
theorem ns_cw_4 : Cond.code (ns_y 4) (ns_c 4) (ns_m 4) (ns_r 4) ∈ ns_Gt := ns_in_Gt (List.mem_append_right _ (List.mem_of_getElem? (i := 283) rfl)) rfl
set_option maxRecDepth 100000 in
theorem ns_cw_5 : Cond.code (ns_y 5) (ns_c 5) (ns_m 5) (ns_r 5) ∈ ns_Gt := ns_in_Gt (List.mem_append_right _ (List.mem_of_getElem? (i := 72) rfl)) rfl
set_option maxRecDepth 100000 in
theorem ns_cw_6 : Cond.code (ns_y 6) (ns_c 6) (ns_m 6) (ns_r 6) ∈ ns_Gt := ns_in_Gt (List.mem_append_right _ (List.mem_of_getElem? (i := 324) rfl)) rfl
set_option maxRecDepth 100000 in
theorem ns_cw_7 : Cond.code (ns_y 7) (ns_c 7) (ns_m 7) (ns_r 7) ∈ ns_Gt := ns_in_Gt (List.mem_append_right _ (List.mem_of_getElem? (i := 234) rfl)) rfl
set_option maxRecDepth 100000 in
theorem ns_cw_8 : Cond.code (ns_y 8) (ns_c 8) (ns_m 8) (ns_r 8) ∈ ns_Gt := ns_in_Gt (List.mem_append_right _ (List.mem_of_getElem? (i := 243) rfl)) rfl
set_option maxRecDepth 100000 in
theorem ns_cw_9 : Cond.code (ns_y 9) (ns_c 9) (ns_m 9) (ns_r 9) ∈ ns_Gt := ns_in_Gt (List.mem_append_right _ (List.mem_of_getElem? (i := 287) rfl)) rfl
set_option maxRecDepth 100000 in
theorem ns_cw_10 : Cond.code (ns_y 10) (ns_c 10) (ns_m 10) (ns_r 10) ∈ ns_Gt := ns_in_Gt (List.mem_append_right _ (List.mem_of_getElem? (i := 291) rfl)) rfl
set_option maxRecDepth 100000 in
theorem ns_cw_11 : Cond.code (ns_y 11) (ns_c 11) (ns_m 11) (ns_r 11) ∈ ns_Gt := ns_in_Gt (List.mem_append_right _ (List.mem_of_getElem? (i := 21) rfl)) rfl
set_option maxRecDepth 100000 in
theorem ns_cw_12 : Cond.code (ns_y 12) (ns_c 12) (ns_m 12) (ns_r 12) ∈ ns_Gt := ns_in_Gt (List.mem_append_right _ (List.mem_of_getElem? (i := 226) rfl)) rfl
set_option maxRecDepth 100000 in
theorem ns_cw_13 : Cond.code (ns_y 13) (ns_c 13) (ns_m 13) (ns_r 13) ∈ ns_Gt := ns_in_Gt (List.mem_append_right _ (List.mem_of_getElem? (i := 247) rfl)) rfl
set_option maxRecDepth 100000 in
theorem ns_cw_14 : Cond.code (ns_y 14) (ns_c 14) (ns_m 14) (ns_r 14) ∈ ns_Gt := ns_in_Gt (List.mem_append_right _ (List.mem_of_getElem? (i := 230) rfl)) rfl
set_option maxRecDepth 100000 in
theorem ns_cw_15 : Cond.code (ns_y 15) (ns_c 15) (ns_m 15) (ns_r 15) ∈ ns_Gt := ns_in_Gt (List.mem_append_right _ (List.mem_of_getElem? (i := 239) rfl)) rfl
set_option maxRecDepth 100000 in
theorem ns_cw_16 : Cond.code (ns_y 16) (ns_c 16) (ns_m 16) (ns_r 16) ∈ ns_Gt := ns_in_Gt (List.mem_append_right _ (List.mem_of_getElem? (i := 11) rfl)) rfl
set_option maxRecDepth 100000 in
theorem ns_cw_17 : Cond.code (ns_y 17) (ns_c 17) (ns_m 17) (ns_r 17) ∈ ns_Gt := ns_in_Gt (List.mem_append_right _ (List.mem_of_getElem? (i := 61) rfl)) rfl
set_option maxRecDepth 100000 in
theorem ns_cw_18 : Cond.code (ns_y 18) (ns_c 18) (ns_m 18) (ns_r 18) ∈ ns_Gt := ns_in_Gt (List.mem_append_right _ (List.mem_of_getElem? (i := 154) rfl)) rfl
set_option maxRecDepth 100000 in
theorem ns_cw_19 : Cond.code (ns_y 19) (ns_c 19) (ns_m 19) (ns_r 19) ∈ ns_Gt := ns_in_Gt (List.mem_append_right _ (List.mem_of_getElem? (i := 158) rfl)) rfl
set_option maxRecDepth 100000 in
theorem ns_cw_20 : Cond.code (ns_y 20) (ns_c 20) (ns_m 20) (ns_r 20) ∈ ns_Gt := ns_in_Gt (List.mem_append_right _ (List.mem_of_getElem? (i := 169) rfl)) rfl
set_option maxRecDepth 100000 in
theorem ns_cw_21 : Cond.code (ns_y 21) (ns_c 21) (ns_m 21) (ns_r 21) ∈ ns_Gt := ns_in_Gt (List.mem_append_right _ (List.mem_of_getElem? (i := 185) rfl)) rfl
set_option maxRecDepth 100000 in
theorem ns_cw_22 : Cond.code (ns_y 22) (ns_c 22) (ns_m 22) (ns_r 22) ∈ ns_Gt := ns_in_Gt (List.mem_append_right _ (List.mem_of_getElem? (i := 189) rfl)) rfl
set_option maxRecDepth 100000 in
theorem ns_cw_23 : Cond.code (ns_y 23) (ns_c 23) (ns_m 23) (ns_r 23) ∈ ns_Gt := ns_in_Gt (List.mem_append_right _ (List.mem_of_getElem? (i := 193) rfl)) rfl
set_option maxRecDepth 100000 in
theorem ns_cw_24 : Cond.code (ns_y 24) (ns_c 24) (ns_m 24) (ns_r 24) ∈ ns_Gt := ns_in_Gt (List.mem_append_right _ (List.mem_of_getElem? (i := 200) rfl)) rfl
set_option maxRecDepth 100000 in
theorem ns_cw_25 : Cond.code (ns_y 25) (ns_c 25) (ns_m 25) (ns_r 25) ∈ ns_Gt := ns_in_Gt (List.mem_append_right _ (List.mem_of_getElem? (i := 207) rfl)) rfl
set_option maxRecDepth 100000 in
theorem ns_cw_26 : Cond.code (ns_y 26) (ns_c 26) (ns_m 26) (ns_r 26) ∈ ns_Gt := ns_in_Gt (List.mem_append_right _ (List.mem_of_getElem? (i := 214) rfl)) rfl
set_option maxRecDepth 100000 in
theorem ns_cw_27 : Cond.code (ns_y 27) (ns_c 27) (ns_m 27) (ns_r 27) ∈ ns_Gt := ns_in_Gt (List.mem_append_right _ (List.mem_of_getElem? (i := 218) rfl)) rfl
set_option maxRecDepth 100000 in
theorem ns_cw_28 : Cond.code (ns_y 28) (ns_c 28) (ns_m 28) (ns_r 28) ∈ ns_Gt := ns_in_Gt (List.mem_append_right _ (List.mem_of_getElem? (i := 252) rfl)) rfl
set_option maxRecDepth 100000 in
theorem ns_cw_29 : Cond.code (ns_y 29) (ns_c 29) (ns_m 29) (ns_r 29) ∈ ns_Gt := ns_in_Gt (List.mem_append_right _ (List.mem_of_getElem? (i := 256) rfl)) rfl
set_option maxRecDepth 100000 in
theorem ns_cw_30 : Cond.code (ns_y 30) (ns_c 30) (ns_m 30) (ns_r 30) ∈ ns_Gt := ns_in_Gt (List.mem_append_right _ (List.mem_of_getElem? (i := 299) rfl)) rfl
set_option maxRecDepth 100000 in
theorem ns_cw_31 : Cond.code (ns_y 31) (ns_c 31) (ns_m 31) (ns_r 31) ∈ ns_Gt := ns_in_Gt (List.mem_append_right _ (List.mem_of_getElem? (i := 303) rfl)) rfl
set_option maxRecDepth 100000 in
theorem ns_cw_32 : Cond.code (ns_y 32) (ns_c 32) (ns_m 32) (ns_r 32) ∈ ns_Gt := ns_in_Gt (List.mem_append_right _ (List.mem_of_getElem? (i := 316) rfl)) rfl
set_option maxRecDepth 100000 in
theorem ns_cw_33 : Cond.code (ns_y 33) (ns_c 33) (ns_m 33) (ns_r 33) ∈ ns_Gt := ns_in_Gt (List.mem_append_right _ (List.mem_of_getElem? (i := 349) rfl)) rfl
set_option maxRecDepth 100000 in
theorem ns_cw_34 : Cond.code (ns_y 34) (ns_c 34) (ns_m 34) (ns_r 34) ∈ ns_Gt := ns_in_Gt (List.mem_append_right _ (List.mem_of_getElem? (i := 353) rfl)) rfl
set_option maxRecDepth 100000 in
theorem ns_cw_35 : Cond.code (ns_y 35) (ns_c 35) (ns_m 35) (ns_r 35) ∈ ns_Gt := ns_in_Gt (List.mem_append_right _ (List.mem_of_getElem? (i := 357) rfl)) rfl
set_option maxRecDepth 100000 in
theorem ns_cw_36 : Cond.code (ns_y 36) (ns_c 36) (ns_m 36) (ns_r 36) ∈ ns_Gt := ns_in_Gt (List.mem_append_right _ (List.mem_of_getElem? (i := 162) rfl)) rfl
set_option maxRecDepth 100000 in
theorem ns_cw_37 : Cond.code (ns_y 37) (ns_c 37) (ns_m 37) (ns_r 37) ∈ ns_Gt := ns_in_Gt (List.mem_append_right _ (List.mem_of_getElem? (i := 65) rfl)) rfl
set_option maxRecDepth 100000 in
theorem ns_cw_38 : Cond.code (ns_y 38) (ns_c 38) (ns_m 38) (ns_r 38) ∈ ns_Gt := ns_in_Gt (List.mem_append_right _ (List.mem_of_getElem? (i := 150) rfl)) rfl
set_option maxRecDepth 100000 in
theorem ns_cw_39 : Cond.code (ns_y 39) (ns_c 39) (ns_m 39) (ns_r 39) ∈ ns_Gt := ns_in_Gt (List.mem_append_right _ (List.mem_of_getElem? (i := 68) rfl)) rfl
set_option maxRecDepth 100000 in
theorem ns_cw_40 : Cond.code (ns_y 40) (ns_c 40) (ns_m 40) (ns_r 40) ∈ ns_Gt := ns_in_Gt (List.mem_append_right _ (List.mem_of_getElem? (i := 172) rfl)) rfl
set_option maxRecDepth 100000 in
theorem ns_cw_41 : Cond.code (ns_y 41) (ns_c 41) (ns_m 41) (ns_r 41) ∈ ns_Gt := ns_in_Gt (List.mem_append_right _ (List.mem_of_getElem? (i := 181) rfl)) rfl
set_option maxRecDepth 100000 in
theorem ns_cw_42 : Cond.code (ns_y 42) (ns_c 42) (ns_m 42) (ns_r 42) ∈ ns_Gt := ns_in_Gt (List.mem_append_right _ (List.mem_of_getElem? (i := 165) rfl)) rfl
set_option maxRecDepth 100000 in
theorem ns_cw_43 : Cond.code (ns_y 43) (ns_c 43) (ns_m 43) (ns_r 43) ∈ ns_Gt := ns_in_Gt (List.mem_append_right _ (List.mem_of_getElem? (i := 178) rfl)) rfl
set_option maxRecDepth 100000 in
theorem ns_cw_44 : Cond.code (ns_y 44) (ns_c 44) (ns_m 44) (ns_r 44) ∈ ns_Gt := ns_in_Gt (List.mem_append_right _ (List.mem_of_getElem? (i := 175) rfl)) rfl
set_option maxRecDepth 100000 in
theorem ns_cw_45 : Cond.code (ns_y 45) (ns_c 45) (ns_m 45) (ns_r 45) ∈ ns_Gt := ns_in_Gt (List.mem_append_right _ (List.mem_of_getElem? (i := 210) rfl)) rfl
set_option maxRecDepth 100000 in
theorem ns_cw_46 : Cond.code (ns_y 46) (ns_c 46) (ns_m 46) (ns_r 46) ∈ ns_Gt := ns_in_Gt (List.mem_append_right _ (List.mem_of_getElem? (i := 196) rfl)) rfl
set_option maxRecDepth 100000 in
theorem ns_cw_47 : Cond.code (ns_y 47) (ns_c 47) (ns_m 47) (ns_r 47) ∈ ns_Gt := ns_in_Gt (List.mem_append_right _ (List.mem_of_getElem? (i := 203) rfl)) rfl
set_option maxRecDepth 100000 in
theorem ns_cw_48 : Cond.code (ns_y 48) (ns_c 48) (ns_m 48) (ns_r 48) ∈ ns_Gt := ns_in_Gt (List.mem_append_right _ (List.mem_of_getElem? (i := 222) rfl)) rfl
set_option maxRecDepth 100000 in
theorem ns_cw_49 : Cond.code (ns_y 49) (ns_c 49) (ns_m 49) (ns_r 49) ∈ ns_Gt := ns_in_Gt (List.mem_append_right _ (List.mem_of_getElem? (i := 259) rfl)) rfl
set_option maxRecDepth 100000 in
theorem ns_cw_50 : Cond.code (ns_y 50) (ns_c 50) (ns_m 50) (ns_r 50) ∈ ns_Gt := ns_in_Gt (List.mem_append_right _ (List.mem_of_getElem? (i := 320) rfl)) rfl
set_option maxRecDepth 100000 in
theorem ns_cw_51 : Cond.code (ns_y 51) (ns_c 51) (ns_m 51) (ns_r 51) ∈ ns_Gt := ns_in_Gt (List.mem_append_right _ (List.mem_of_getElem? (i := 342) rfl)) rfl
set_option maxRecDepth 100000 in
theorem ns_cw_52 : Cond.code (ns_y 52) (ns_c 52) (ns_m 52) (ns_r 52) ∈ ns_Gt := ns_in_Gt (List.mem_append_right _ (List.mem_of_getElem? (i := 345) rfl)) rfl
set_option maxRecDepth 100000 in
theorem ns_cw_53 : Cond.code (ns_y 53) (ns_c 53) (ns_m 53) (ns_r 53) ∈ ns_Gt := ns_in_Gt (List.mem_append_right _ (List.mem_of_getElem? (i := 306) rfl)) rfl
set_option maxRecDepth 100000 in
theorem ns_cw_54 : Cond.code (ns_y 54) (ns_c 54) (ns_m 54) (ns_r 54) ∈ ns_Gt := ns_in_Gt (List.mem_append_right _ (List.mem_of_getElem? (i := 309) rfl)) rfl
set_option maxRecDepth 100000 in
theorem ns_cw_55 : Cond.code (ns_y 55) (ns_c 55) (ns_m 55) (ns_r 55) ∈ ns_Gt := ns_in_Gt (List.mem_append_right _ (List.mem_of_getElem? (i := 312) rfl)) rfl
set_option maxRecDepth 100000 in
theorem ns_cw_56 : Cond.code (ns_y 56) (ns_c 56) (ns_m 56) (ns_r 56) ∈ ns_Gt := ns_in_Gt (List.mem_append_right _ (List.mem_of_getElem? (i := 362) rfl)) rfl
set_option maxRecDepth 100000 in
theorem ns_cw_57 : Cond.code (ns_y 57) (ns_c 57) (ns_m 57) (ns_r 57) ∈ ns_Gt := ns_in_Gt (List.mem_append_right _ (List.mem_of_getElem? (i := 433) rfl)) rfl
set_option maxRecDepth 100000 in
theorem ns_cw_58 : Cond.code (ns_y 58) (ns_c 58) (ns_m 58) (ns_r 58) ∈ ns_Gt := ns_in_Gt (List.mem_append_right _ (List.mem_of_getElem? (i := 453) rfl)) rfl
set_option maxRecDepth 100000 in
theorem ns_cw_59 : Cond.code (ns_y 59) (ns_c 59) (ns_m 59) (ns_r 59) ∈ ns_Gt := ns_in_Gt (List.mem_append_right _ (List.mem_of_getElem? (i := 456) rfl)) rfl
set_option maxRecDepth 100000 in
theorem ns_cw_60 : Cond.code (ns_y 60) (ns_c 60) (ns_m 60) (ns_r 60) ∈ ns_Gt := ns_in_Gt (List.mem_append_right _ (List.mem_of_getElem? (i := 440) rfl)) rfl
set_option maxRecDepth 100000 in
theorem ns_cw_61 : Cond.code (ns_y 61) (ns_c 61) (ns_m 61) (ns_r 61) ∈ ns_Gt := ns_in_Gt (List.mem_append_right _ (List.mem_of_getElem? (i := 489) rfl)) rfl
set_option maxRecDepth 100000 in
theorem ns_cw_62 : Cond.code (ns_y 62) (ns_c 62) (ns_m 62) (ns_r 62) ∈ ns_Gt := ns_in_Gt (List.mem_append_right _ (List.mem_of_getElem? (i := 521) rfl)) rfl
set_option maxRecDepth 100000 in
theorem ns_cw_63 : Cond.code (ns_y 63) (ns_c 63) (ns_m 63) (ns_r 63) ∈ ns_Gt := ns_in_Gt (List.mem_append_right _ (List.mem_of_getElem? (i := 437) rfl)) rfl
set_option maxRecDepth 100000 in
theorem ns_cw_64 : Cond.code (ns_y 64) (ns_c 64) (ns_m 64) (ns_r 64) ∈ ns_Gt := ns_in_Gt (List.mem_append_right _ (List.mem_of_getElem? (i := 430) rfl)) rfl
set_option maxRecDepth 100000 in
theorem ns_cw_65 : Cond.code (ns_y 65) (ns_c 65) (ns_m 65) (ns_r 65) ∈ ns_Gt := ns_in_Gt (List.mem_append_right _ (List.mem_of_getElem? (i := 445) rfl)) rfl
set_option maxRecDepth 100000 in
theorem ns_cw_66 : Cond.code (ns_y 66) (ns_c 66) (ns_m 66) (ns_r 66) ∈ ns_Gt := ns_in_Gt (List.mem_append_right _ (List.mem_of_getElem? (i := 449) rfl)) rfl
set_option maxRecDepth 100000 in
theorem ns_cw_67 : Cond.code (ns_y 67) (ns_c 67) (ns_m 67) (ns_r 67) ∈ ns_Gt := ns_in_Gt (List.mem_append_right _ (List.mem_of_getElem? (i := 469) rfl)) rfl
set_option maxRecDepth 100000 in
theorem ns_cw_68 : Cond.code (ns_y 68) (ns_c 68) (ns_m 68) (ns_r 68) ∈ ns_Gt := ns_in_Gt (List.mem_append_right _ (List.mem_of_getElem? (i := 465) rfl)) rfl
set_option maxRecDepth 100000 in
theorem ns_cw_69 : Cond.code (ns_y 69) (ns_c 69) (ns_m 69) (ns_r 69) ∈ ns_Gt := ns_in_Gt (List.mem_append_right _ (List.mem_of_getElem? (i := 461) rfl)) rfl
set_option maxRecDepth 100000 in
theorem ns_cw_70 : Cond.code (ns_y 70) (ns_c 70) (ns_m 70) (ns_r 70) ∈ ns_Gt := ns_in_Gt (List.mem_append_right _ (List.mem_of_getElem? (i := 473) rfl)) rfl
set_option maxRecDepth 100000 in
theorem ns_cw_71 : Cond.code (ns_y 71) (ns_c 71) (ns_m 71) (ns_r 71) ∈ ns_Gt := ns_in_Gt (List.mem_append_right _ (List.mem_of_getElem? (i := 477) rfl)) rfl
set_option maxRecDepth 100000 in
theorem ns_cw_72 : Cond.code (ns_y 72) (ns_c 72) (ns_m 72) (ns_r 72) ∈ ns_Gt := ns_in_Gt (List.mem_append_right _ (List.mem_of_getElem? (i := 481) rfl)) rfl
set_option maxRecDepth 100000 in
theorem ns_cw_73 : Cond.code (ns_y 73) (ns_c 73) (ns_m 73) (ns_r 73) ∈ ns_Gt := ns_in_Gt (List.mem_append_right _ (List.mem_of_getElem? (i := 485) rfl)) rfl
set_option maxRecDepth 100000 in
theorem ns_cw_74 : Cond.code (ns_y 74) (ns_c 74) (ns_m 74) (ns_r 74) ∈ ns_Gt := ns_in_Gt (List.mem_append_right _ (List.mem_of_getElem? (i := 493) rfl)) rfl
set_option maxRecDepth 100000 in
theorem ns_cw_75 : Cond.code (ns_y 75) (ns_c 75) (ns_m 75) (ns_r 75) ∈ ns_Gt := ns_in_Gt (List.mem_append_right _ (List.mem_of_getElem? (i := 497) rfl)) rfl
set_option maxRecDepth 100000 in
theorem ns_cw_76 : Cond.code (ns_y 76) (ns_c 76) (ns_m 76) (ns_r 76) ∈ ns_Gt := ns_in_Gt (List.mem_append_right _ (List.mem_of_getElem? (i := 509) rfl)) rfl
set_option maxRecDepth 100000 in
theorem ns_cw_77 : Cond.code (ns_y 77) (ns_c 77) (ns_m 77) (ns_r 77) ∈ ns_Gt := ns_in_Gt (List.mem_append_right _ (List.mem_of_getElem? (i := 513) rfl)) rfl
set_option maxRecDepth 100000 in
theorem ns_cw_78 : Cond.code (ns_y 78) (ns_c 78) (ns_m 78) (ns_r 78) ∈ ns_Gt := ns_in_Gt (List.mem_append_right _ (List.mem_of_getElem? (i := 517) rfl)) rfl
set_option maxRecDepth 100000 in
theorem ns_cw_79 : Cond.code (ns_y 79) (ns_c 79) (ns_m 79) (ns_r 79) ∈ ns_Gt := ns_in_Gt (List.mem_append_right _ (List.mem_of_getElem? (i := 525) rfl)) rfl
set_option maxRecDepth 100000 in
theorem ns_cw_80 : Cond.code (ns_y 80) (ns_c 80) (ns_m 80) (ns_r 80) ∈ ns_Gt := ns_in_Gt (List.mem_append_right _ (List.mem_of_getElem? (i := 505) rfl)) rfl
set_option maxRecDepth 100000 in
theorem ns_cw_81 : Cond.code (ns_y 81) (ns_c 81) (ns_m 81) (ns_r 81) ∈ ns_Gt := ns_in_Gt (List.mem_append_right _ (List.mem_of_getElem? (i := 529) rfl)) rfl
set_option maxRecDepth 100000 in
theorem ns_cw_82 : Cond.code (ns_y 82) (ns_c 82) (ns_m 82) (ns_r 82) ∈ ns_Gt := ns_in_Gt (List.mem_append_right _ (List.mem_of_getElem? (i := 501) rfl)) rfl
set_option maxRecDepth 100000 in
theorem ns_cw_83 : Cond.code (ns_y 83) (ns_c 83) (ns_m 83) (ns_r 83) ∈ ns_Gt := ns_in_Gt (List.mem_append_right _ (List.mem_of_getElem? (i := 533) rfl)) rfl
set_option maxRecDepth 100000 in
theorem ns_cw_84 : Cond.code (ns_y 84) (ns_c 84) (ns_m 84) (ns_r 84) ∈ ns_Gt := ns_in_Gt (List.mem_append_right _ (List.mem_of_getElem? (i := 537) rfl)) rfl
set_option maxRecDepth 100000 in
theorem ns_cw_85 : Cond.code (ns_y 85) (ns_c 85) (ns_m 85) (ns_r 85) ∈ ns_Gt := ns_in_Gt (List.mem_append_right _ (List.mem_of_getElem? (i := 549) rfl)) rfl
set_option maxRecDepth 100000 in
theorem ns_cw_86 : Cond.code (ns_y 86) (ns_c 86) (ns_m 86) (ns_r 86) ∈ ns_Gt := ns_in_Gt (List.mem_append_right _ (List.mem_of_getElem? (i := 555) rfl)) rfl
set_option maxRecDepth 100000 in
theorem ns_cw_87 : Cond.code (ns_y 87) (ns_c 87) (ns_m 87) (ns_r 87) ∈ ns_Gt := ns_in_Gt (List.mem_append_right _ (List.mem_of_getElem? (i := 545) rfl)) rfl
set_option maxRecDepth 100000 in
theorem ns_cw_88 : Cond.code (ns_y 88) (ns_c 88) (ns_m 88) (ns_r 88) ∈ ns_Gt := ns_in_Gt (List.mem_append_right _ (List.mem_of_getElem? (i := 541) rfl)) rfl
set_option maxRecDepth 100000 in
theorem ns_cw_89 : Cond.code (ns_y 89) (ns_c 89) (ns_m 89) (ns_r 89) ∈ ns_Gt := ns_in_Gt (List.mem_append_right _ (List.mem_of_getElem? (i := 559) rfl)) rfl
set_option maxRecDepth 100000 in
theorem ns_cw_90 : Cond.code (ns_y 90) (ns_c 90) (ns_m 90) (ns_r 90) ∈ ns_Gt := ns_in_Gt (List.mem_append_right _ (List.mem_of_getElem? (i := 563) rfl)) rfl
set_option maxRecDepth 100000 in
theorem ns_cw_91 : Cond.code (ns_y 91) (ns_c 91) (ns_m 91) (ns_r 91) ∈ ns_Gt := ns_in_Gt (List.mem_append_right _ (List.mem_of_getElem? (i := 571) rfl)) rfl
set_option maxRecDepth 100000 in
theorem ns_cw_92 : Cond.code (ns_y 92) (ns_c 92) (ns_m 92) (ns_r 92) ∈ ns_Gt := ns_in_Gt (List.mem_append_right _ (List.mem_of_getElem? (i := 567) rfl)) rfl
set_option maxRecDepth 100000 in
theorem ns_cw_93 : Cond.code (ns_y 93) (ns_c 93) (ns_m 93) (ns_r 93) ∈ ns_Gt := ns_in_Gt (List.mem_append_right _ (List.mem_of_getElem? (i := 575) rfl)) rfl
set_option maxRecDepth 100000 in
theorem ns_cw_94 : Cond.code (ns_y 94) (ns_c 94) (ns_m 94) (ns_r 94) ∈ ns_Gt := ns_in_Gt (List.mem_append_right _ (List.mem_of_getElem? (i := 579) rfl)) rfl
theorem ns_cw : ∀ k, k < 95 → Cond.code (ns_y k) (ns_c k) (ns_m k) (ns_r k) ∈ ns_Gt := fun k h => by
  match k, h with
  | 0, _ => exact ns_cw_0
  | 1, _ => exact ns_cw_1
  | 2, _ => exact ns_cw_2
  | 3, _ => exact ns_cw_3
  | 4, _ => exact ns_cw_4
  | 5, _ => exact ns_cw_5
  | 6, _ => exact ns_cw_6
  | 7, _ => exact ns_cw_7
  | 8, _ => exact ns_cw_8
  | 9, _ => exact ns_cw_9
  | 10, _ => exact ns_cw_10
  | 11, _ => exact ns_cw_11
  | 12, _ => exact ns_cw_12
  | 13, _ => exact ns_cw_13
  | 14, _ => exact ns_cw_14
  | 15, _ => exact ns_cw_15
  | 16, _ => exact ns_cw_16
  | 17, _ => exact ns_cw_17
  | 18, _ => exact ns_cw_18
  | 19, _ => exact ns_cw_19
  | 20, _ => exact ns_cw_20
  | 21, _ => exact ns_cw_21
  | 22, _ => exact ns_cw_22
  | 23, _ => exact ns_cw_23
  | 24, _ => exact ns_cw_24
  | 25, _ => exact ns_cw_25
  | 26, _ => exact ns_cw_26
  | 27, _ => exact ns_cw_27
  | 28, _ => exact ns_cw_28
  | 29, _ => exact ns_cw_29
  | 30, _ => exact ns_cw_30
  | 31, _ => exact ns_cw_31
  | 32, _ => exact ns_cw_32
  | 33, _ => exact ns_cw_33
  | 34, _ => exact ns_cw_34
  | 35, _ => exact ns_cw_35
  | 36, _ => exact ns_cw_36
  | 37, _ => exact ns_cw_37
  | 38, _ => exact ns_cw_38
  | 39, _ => exact ns_cw_39
  | 40, _ => exact ns_cw_40
  | 41, _ => exact ns_cw_41
  | 42, _ => exact ns_cw_42
  | 43, _ => exact ns_cw_43
  | 44, _ => exact ns_cw_44
  | 45, _ => exact ns_cw_45
  | 46, _ => exact ns_cw_46
  | 47, _ => exact ns_cw_47
  | 48, _ => exact ns_cw_48
  | 49, _ => exact ns_cw_49
  | 50, _ => exact ns_cw_50
  | 51, _ => exact ns_cw_51
  | 52, _ => exact ns_cw_52
  | 53, _ => exact ns_cw_53
  | 54, _ => exact ns_cw_54
  | 55, _ => exact ns_cw_55
  | 56, _ => exact ns_cw_56
  | 57, _ => exact ns_cw_57
  | 58, _ => exact ns_cw_58
  | 59, _ => exact ns_cw_59
  | 60, _ => exact ns_cw_60
  | 61, _ => exact ns_cw_61
  | 62, _ => exact ns_cw_62
  | 63, _ => exact ns_cw_63
  | 64, _ => exact ns_cw_64
  | 65, _ => exact ns_cw_65
  | 66, _ => exact ns_cw_66
  | 67, _ => exact ns_cw_67
  | 68, _ => exact ns_cw_68
  | 69, _ => exact ns_cw_69
  | 70, _ => exact ns_cw_70
  | 71, _ => exact ns_cw_71
  | 72, _ => exact ns_cw_72
  | 73, _ => exact ns_cw_73
  | 74, _ => exact ns_cw_74
  | 75, _ => exact ns_cw_75
  | 76, _ => exact ns_cw_76
  | 77, _ => exact ns_cw_77
  | 78, _ => exact ns_cw_78
  | 79, _ => exact ns_cw_79
  | 80, _ => exact ns_cw_80
  | 81, _ => exact ns_cw_81
  | 82, _ => exact ns_cw_82
  | 83, _ => exact ns_cw_83
  | 84, _ => exact ns_cw_84
  | 85, _ => exact ns_cw_85
  | 86, _ => exact ns_cw_86
  | 87, _ => exact ns_cw_87
  | 88, _ => exact ns_cw_88
  | 89, _ => exact ns_cw_89
  | 90, _ => exact ns_cw_90
  | 91, _ => exact ns_cw_91
  | 92, _ => exact ns_cw_92
  | 93, _ => exact ns_cw_93
  | 94, _ => exact ns_cw_94
  | _ + 95, h => exact absurd h (by omega)
set_option maxRecDepth 100000 in
theorem ns_ws : ∀ ci, ci < 5 → ∀ w ∈ u_ws (ns_R ci) (ns_T ci) (ns_N ci), w ∈ ns_Gt := by decide +kernel
set_option maxRecDepth 100000 in
theorem ns_ft_ok : ∀ e ∈ ns_ft, Cond.fieldLink (ns_R e.1) e.2.1 (ns_T e.2.2.1 e.2.2.2).1 (ns_T e.2.2.1 e.2.2.2).2.1 (ns_T e.2.2.1 e.2.2.2).2.2.1 ∈ ns_Gt ∧ e.2.2.2 < ns_N e.2.2.1 ∧ e.2.2.1 < 5 := by decide +kernel
set_option maxRecDepth 100000 in
theorem ns_ct_ok : ∀ e ∈ ns_ct, Cond.classLink (ns_R e.1) e.2.1 (ns_R e.2.2) ∈ ns_Gt ∧ Cond.instantiable (ns_R e.2.2) (ns_N e.2.2) ∈ ns_Gt ∧ Cond.initialized (ns_R e.2.2) ∈ ns_Gt ∧ e.2.2 < 5 := by decide +kernel
set_option maxRecDepth 100000 in
theorem ns_ot_ok : ∀ e ∈ ns_ot, Cond.methodLink (ns_R e.1) e.2.1 objectInit ∈ ns_Gt := by decide +kernel
set_option maxRecDepth 100000 in
theorem ns_oi_ok : Cond.instanceMethod objectInit ∈ ns_Gt := by decide +kernel
theorem ns_oc_ok : Cond.code objectInit ⟨#[0xb1]⟩ 1 none ∈ ns_Gt := ns_in_Gt (List.mem_append_right _ (List.mem_of_getElem? (i := 14) rfl)) rfl
set_option maxRecDepth 100000 in
theorem ns_mt_ok : ∀ e ∈ ns_mt, Cond.methodLink (ns_R e.1) e.2.1 (ns_y e.2.2) ∈ ns_Gt ∧ e.2.2 < 95 := by decide +kernel
set_option maxRecDepth 100000 in
theorem ns_kind_ok : ∀ k, k < 95 → Cond.initialized (ns_y k).cls ∈ ns_Gt ∧ (ns_y k).cls = ns_R (ns_o k) ∧ ((ns_y k).cls ≠ "java/lang/invoke/MethodHandle" ∧ (ns_y k).cls ≠ "java/lang/invoke/VarHandle" ∧ (parseMethodDescriptor (ns_y k).desc).map (fun d => d.parameters.length) = some (ns_pn k)) ∧ plainName (ns_y k).cls = true := by decide +kernel
set_option maxRecDepth 100000 in
theorem ns_sel_ok : ∀ k, k < 95 → (ns_stt k = true → Cond.static (ns_y k) ∈ ns_Gt) ∧ (ns_stt k = false → Cond.instanceMethod (ns_y k) ∈ ns_Gt) ∧ (ns_stt k = false → ns_ini k = false → Cond.selects (ns_R (ns_o k)) (ns_y k) (ns_y k) ∈ ns_Gt) ∧ (ns_ini k = true → ns_stt k = false ∧ (ns_y k).name = "<init>" ∧ ns_r k = none) := by decide +kernel
set_option maxRecDepth 100000 in
theorem ns_k1_ok : ∀ e ∈ ns_k1, Cond.constant (ns_R e.1) e.2.1 e.2.2 ∈ ns_Gt := by decide +kernel
set_option maxRecDepth 100000 in
theorem ns_k2_ok : ∀ e ∈ ns_k2, Cond.constantLong (ns_R e.1) e.2.1 e.2.2 ∈ ns_Gt := by decide +kernel
set_option maxRecDepth 100000 in
theorem ns_ar_ok : Cond.arrayClass .int ∈ ns_Gt ∧ Cond.arrayClass .long ∈ ns_Gt ∧ Cond.classLink RX3 9 RX1 ∈ ns_Gt := by decide +kernel
set_option maxRecDepth 100000 in
theorem ns_cl_ok : (Cond.methodLink RX1 31 ⟨"[J", "clone", "()Ljava/lang/Object;"⟩ ∈ ns_Gt ∧ Cond.sameMethod "[J" "java/lang/Object" "clone" "()Ljava/lang/Object;" ∈ ns_Gt ∧ Cond.native ⟨"java/lang/Object", "clone", "()Ljava/lang/Object;"⟩ ∈ ns_Gt ∧ Cond.instanceMethod ⟨"java/lang/Object", "clone", "()Ljava/lang/Object;"⟩ ∈ ns_Gt ∧ Cond.selects "[J" ⟨"[J", "clone", "()Ljava/lang/Object;"⟩ ⟨"java/lang/Object", "clone", "()Ljava/lang/Object;"⟩ ∈ ns_Gt ∧ Cond.classLink RX1 32 "[J" ∈ ns_Gt) ∧ (Cond.methodLink RX1 36 ⟨"[LNestShelf$Thing;", "clone", "()Ljava/lang/Object;"⟩ ∈ ns_Gt ∧ Cond.sameMethod "[LNestShelf$Thing;" "java/lang/Object" "clone" "()Ljava/lang/Object;" ∈ ns_Gt ∧ Cond.selects "[LNestShelf$Thing;" ⟨"[LNestShelf$Thing;", "clone", "()Ljava/lang/Object;"⟩ ⟨"java/lang/Object", "clone", "()Ljava/lang/Object;"⟩ ∈ ns_Gt ∧ Cond.classLink RX1 37 "[LNestShelf$Thing;" ∈ ns_Gt) := by decide +kernel
set_option maxRecDepth 100000 in
theorem ns_min_ok : Cond.methodLink RX3 145 Lib.Math.min.name ∈ ns_Gt ∧ Cond.static Lib.Math.min.name ∈ ns_Gt ∧ Cond.initialized "java/lang/Math" ∈ ns_Gt := by decide +kernel
theorem ns_minc_ok : Cond.code Lib.Math.min.name Lib.Math.min.code 2 (some .int) ∈ ns_Gt := ns_in_Gt (List.mem_append_right _ (List.mem_of_getElem? (i := 262) rfl)) rfl
theorem ns_ty_ok : ∀ ci, ci < 5 → ∀ k, k < ns_N ci → parseFieldDescriptor (ns_T ci k).2.2.1 = some (ns_ty ci k) := by decide +kernel
theorem ns_nm_ok : ∀ ci, ci < 5 → ∀ a, a < ns_N ci → ∀ b, b < ns_N ci → a ≠ b → (ns_T ci a).2.1 ≠ (ns_T ci b).2.1 := by decide +kernel
theorem ns_own_ok : ∀ ci, ci < 5 → ∀ k, k < ns_N ci → (ns_T ci k).1 = ns_R ci := by decide +kernel
theorem ns_vw_ok : ∀ ci, ci < 5 → vwCl[ci]? = some (ns_R ci, ns_T ci, ns_N ci) := fun ci h => by
  match ci, h with
  | 0, _ => rfl
  | 1, _ => rfl
  | 2, _ => rfl
  | 3, _ => rfl
  | 4, _ => rfl
theorem ns_good {w : Cond} (h : w ∈ ns_Gt) : (w.onTables && w.keeps) = true ∨ ∃ ty, w = .arrayClass ty := good_of_word (ns_Gt_good w h).2
theorem ns_goodIn {big : List Cond} (hb : ∀ w ∈ ns_Gt, w ∈ big) {k : Nat} (hk : k < 95) : GoodIn big (ns_w k) := fun w hw => by
  rcases List.mem_cons.mp hw with h | h
  · subst h
    exact ⟨hb _ (ns_cw k hk), ns_good (ns_cw k hk)⟩
  · exact ⟨hb _ h, ns_good h⟩
/-- words that are no good words -/
def ns_E (U : State) : Prop := va_AO "NestShelf$Thing" U ∧ va_Nw (.methodLinkNest RX3 17 yX2_init "NestShelf") U ∧ va_Nw (.methodLinkNest RX3 109 yX0_init "NestShelf") U ∧ va_Nw (.castable "[J" "java/lang/Cloneable") U ∧ va_Nw (.castable "[LNestShelf$Thing;" "java/lang/Cloneable") U
theorem ns_E.warm {s U : State} (hW : s.WarmedH U.vm) (h : ns_E s) : ns_E U := ⟨h.1.moved hW.alike, h.2.1.warmM hW, h.2.2.1.warmM hW, h.2.2.2.1.warmC hW, h.2.2.2.2.warmC hW⟩
theorem ns_E.same {u U : State} (e : u.vm = U.vm) (h : ns_E u) : ns_E U := ⟨h.1.moved (e ▸ Vm.Alike.refl u.vm), h.2.1.same rfl e, h.2.2.1.same rfl e, h.2.2.2.1.same rfl e, h.2.2.2.2.same rfl e⟩
theorem ns_nt_ok {o i k : Nat} (h : (o, i, k) ∈ ns_nt) {s : State} (hE : ns_E s) : k < 95 ∧ va_Nw (.methodLinkNest (ns_R o) i (ns_y k) "NestShelf") s := by
  rcases List.mem_cons.mp h with e | e
  · cases e; exact ⟨by decide, hE.2.1⟩
  · rcases List.mem_cons.mp e with e | e
    · cases e; exact ⟨by decide, hE.2.2.1⟩
    · cases e

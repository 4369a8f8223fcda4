/-! EACH METHOD IS THE STATEMENT'S; printed by wip/whole/tools/gen_tables.py -/
theorem am_tb1 {w : Cond} (h : w ∈ tables_1_1) : w ∈ lw_tbl := List.mem_append_right _ (List.mem_append_left _ h)
theorem am_tb2 {w : Cond} (h : w ∈ tables_1_2) : w ∈ lw_tbl := List.mem_append_right _ (List.mem_append_right _ (List.mem_append_left _ h))
theorem am_tb3 {w : Cond} (h : w ∈ tables_1_3) : w ∈ lw_tbl := List.mem_append_right _ (List.mem_append_right _ (List.mem_append_right _ (List.mem_append_left _ h)))
theorem am_tb4 {w : Cond} (h : w ∈ tables_1_4) : w ∈ lw_tbl := List.mem_append_right _ (List.mem_append_right _ (List.mem_append_right _ (List.mem_append_right _ (List.mem_append_left _ h))))
theorem am_tb5 {w : Cond} (h : w ∈ tables_1_5) : w ∈ lw_tbl := List.mem_append_right _ (List.mem_append_right _ (List.mem_append_right _ (List.mem_append_right _ (List.mem_append_right _ (List.mem_append_left _ h)))))
theorem am_tb6 {w : Cond} (h : w ∈ tables_1_6) : w ∈ lw_tbl := List.mem_append_right _ (List.mem_append_right _ (List.mem_append_right _ (List.mem_append_right _ (List.mem_append_right _ (List.mem_append_right _ (h))))))
def am_mok (k : Nat) : Prop := Cond.initialized (am_name k).cls ∈ am_WT ∧ Cond.code (am_name k) (am_bytes k) (am_mxl k) (am_ret k) ∈ am_WT ∧ (am_name k).cls ≠ "java/lang/invoke/MethodHandle" ∧ (am_name k).cls ≠ "java/lang/invoke/VarHandle" ∧ plainName (am_name k).cls = true ∧ am_cn (am_own k) = (am_name k).cls ∧ (am_isi k = true → (am_name k).name = "<init>")
def am_mks : List Nat := [0, 1, 2, 3, 4, 5, 7, 8, 9, 10, 11, 12, 13, 14, 15, 16, 17, 18, 19, 20, 21, 22, 23, 24, 25, 26, 27, 29, 30, 31, 32, 33, 34, 35, 36, 37, 38, 39, 40, 41, 42, 43, 44, 45, 46, 47, 48, 49, 50, 51, 52, 53, 54, 55, 56, 57, 58, 59, 60, 61, 62, 63, 64, 65, 66, 67, 68, 69, 70, 71, 72, 74, 75, 76, 77, 78, 79, 80, 81, 82, 83, 84, 85, 86, 87, 88, 89, 90, 91, 92, 93, 94, 95, 96, 97, 98, 99, 100, 101, 102, 103, 104, 105, 106, 107, 108, 109, 110, 111, 112, 113, 114, 115, 116, 117, 118, 119, 120, 121, 122, 123, 124, 125, 126, 127, 128, 129, 130, 131, 132, 133, 134, 135, 136, 137, 138, 139, 140, 141, 142, 143, 144, 145, 146, 147, 148, 149, 150, 151, 152, 153, 154, 155, 156, 157, 158, 159, 160, 161, 162, 163, 164, 165, 166, 167, 168, 169, 170, 171, 172, 173, 174, 175, 176, 177, 178, 179, 180, 181, 182, 183, 184, 185, 186, 187, 188, 189, 190, 191, 192, 193, 194, 195, 196, 197, 198, 199, 200, 201, 202, 203, 204, 205, 206, 207]
theorem am_mk1 : am_mks.all (fun k => am_at ((am_mpL[k]?.getD (0, 0)).1) (.initialized (am_name k).cls) && decide (¬ (am_name k).cls = "java/lang/invoke/MethodHandle") && decide (¬ (am_name k).cls = "java/lang/invoke/VarHandle") && plainName (am_name k).cls && decide (am_cn (am_own k) = (am_name k).cls) && (!(am_isi k) || decide ((am_name k).name = "<init>"))) = true := by decide +kernel
theorem am_cw0 : Cond.code (am_name 0) (am_bytes 0) (am_mxl 0) (am_ret 0) ∈ tables_1_1 := List.mem_of_getElem? (i := 20) rfl
theorem am_cw1 : Cond.code (am_name 1) (am_bytes 1) (am_mxl 1) (am_ret 1) ∈ tables_1_1 := List.mem_of_getElem? (i := 28) rfl
theorem am_cw2 : Cond.code (am_name 2) (am_bytes 2) (am_mxl 2) (am_ret 2) ∈ tables_1_1 := List.mem_of_getElem? (i := 62) rfl
theorem am_cw3 : Cond.code (am_name 3) (am_bytes 3) (am_mxl 3) (am_ret 3) ∈ tables_1_1 := List.mem_of_getElem? (i := 92) rfl
theorem am_cw4 : Cond.code (am_name 4) (am_bytes 4) (am_mxl 4) (am_ret 4) ∈ tables_1_1 := List.mem_of_getElem? (i := 110) rfl
theorem am_cw5 : Cond.code (am_name 5) (am_bytes 5) (am_mxl 5) (am_ret 5) ∈ tables_1_1 := List.mem_of_getElem? (i := 116) rfl
theorem am_cw7 : Cond.code (am_name 7) (am_bytes 7) (am_mxl 7) (am_ret 7) ∈ tables_1_1 := List.mem_of_getElem? (i := 169) rfl
theorem am_cw8 : Cond.code (am_name 8) (am_bytes 8) (am_mxl 8) (am_ret 8) ∈ tables_1_1 := List.mem_of_getElem? (i := 175) rfl
theorem am_cw9 : Cond.code (am_name 9) (am_bytes 9) (am_mxl 9) (am_ret 9) ∈ tables_1_1 := List.mem_of_getElem? (i := 181) rfl
theorem am_cw10 : Cond.code (am_name 10) (am_bytes 10) (am_mxl 10) (am_ret 10) ∈ tables_1_1 := List.mem_of_getElem? (i := 188) rfl
theorem am_cw11 : Cond.code (am_name 11) (am_bytes 11) (am_mxl 11) (am_ret 11) ∈ tables_1_2 := List.mem_of_getElem? (i := 41) rfl
theorem am_cw12 : Cond.code (am_name 12) (am_bytes 12) (am_mxl 12) (am_ret 12) ∈ tables_1_2 := List.mem_of_getElem? (i := 71) rfl
theorem am_cw13 : Cond.code (am_name 13) (am_bytes 13) (am_mxl 13) (am_ret 13) ∈ tables_1_2 := List.mem_of_getElem? (i := 124) rfl
theorem am_cw14 : Cond.code (am_name 14) (am_bytes 14) (am_mxl 14) (am_ret 14) ∈ tables_1_2 := List.mem_of_getElem? (i := 207) rfl
theorem am_cw15 : Cond.code (am_name 15) (am_bytes 15) (am_mxl 15) (am_ret 15) ∈ tables_1_2 := List.mem_of_getElem? (i := 211) rfl
theorem am_cw16 : Cond.code (am_name 16) (am_bytes 16) (am_mxl 16) (am_ret 16) ∈ tables_1_2 := List.mem_of_getElem? (i := 215) rfl
theorem am_cw17 : Cond.code (am_name 17) (am_bytes 17) (am_mxl 17) (am_ret 17) ∈ tables_1_2 := List.mem_of_getElem? (i := 219) rfl
theorem am_cw18 : Cond.code (am_name 18) (am_bytes 18) (am_mxl 18) (am_ret 18) ∈ tables_1_2 := List.mem_of_getElem? (i := 223) rfl
theorem am_cw19 : Cond.code (am_name 19) (am_bytes 19) (am_mxl 19) (am_ret 19) ∈ tables_1_2 := List.mem_of_getElem? (i := 227) rfl
theorem am_cw20 : Cond.code (am_name 20) (am_bytes 20) (am_mxl 20) (am_ret 20) ∈ tables_1_2 := List.mem_of_getElem? (i := 231) rfl
theorem am_cw21 : Cond.code (am_name 21) (am_bytes 21) (am_mxl 21) (am_ret 21) ∈ tables_1_2 := List.mem_of_getElem? (i := 235) rfl
theorem am_cw22 : Cond.code (am_name 22) (am_bytes 22) (am_mxl 22) (am_ret 22) ∈ tables_1_2 := List.mem_of_getElem? (i := 239) rfl
theorem am_cw23 : Cond.code (am_name 23) (am_bytes 23) (am_mxl 23) (am_ret 23) ∈ tables_1_3 := List.mem_of_getElem? (i := 3) rfl
theorem am_cw24 : Cond.code (am_name 24) (am_bytes 24) (am_mxl 24) (am_ret 24) ∈ tables_1_3 := List.mem_of_getElem? (i := 7) rfl
theorem am_cw25 : Cond.code (am_name 25) (am_bytes 25) (am_mxl 25) (am_ret 25) ∈ tables_1_3 := List.mem_of_getElem? (i := 11) rfl
theorem am_cw26 : Cond.code (am_name 26) (am_bytes 26) (am_mxl 26) (am_ret 26) ∈ tables_1_3 := List.mem_of_getElem? (i := 15) rfl
theorem am_cw27 : Cond.code (am_name 27) (am_bytes 27) (am_mxl 27) (am_ret 27) ∈ tables_1_3 := List.mem_of_getElem? (i := 19) rfl
theorem am_cw29 : Cond.code (am_name 29) (am_bytes 29) (am_mxl 29) (am_ret 29) ∈ tables_1_3 := List.mem_of_getElem? (i := 27) rfl
theorem am_cw30 : Cond.code (am_name 30) (am_bytes 30) (am_mxl 30) (am_ret 30) ∈ tables_1_3 := List.mem_of_getElem? (i := 31) rfl
theorem am_cw31 : Cond.code (am_name 31) (am_bytes 31) (am_mxl 31) (am_ret 31) ∈ tables_1_3 := List.mem_of_getElem? (i := 35) rfl
theorem am_cw32 : Cond.code (am_name 32) (am_bytes 32) (am_mxl 32) (am_ret 32) ∈ tables_1_3 := List.mem_of_getElem? (i := 39) rfl
theorem am_cw33 : Cond.code (am_name 33) (am_bytes 33) (am_mxl 33) (am_ret 33) ∈ tables_1_3 := List.mem_of_getElem? (i := 43) rfl
theorem am_cw34 : Cond.code (am_name 34) (am_bytes 34) (am_mxl 34) (am_ret 34) ∈ tables_1_3 := List.mem_of_getElem? (i := 47) rfl
theorem am_cw35 : Cond.code (am_name 35) (am_bytes 35) (am_mxl 35) (am_ret 35) ∈ tables_1_3 := List.mem_of_getElem? (i := 51) rfl
theorem am_cw36 : Cond.code (am_name 36) (am_bytes 36) (am_mxl 36) (am_ret 36) ∈ tables_1_3 := List.mem_of_getElem? (i := 54) rfl
theorem am_cw37 : Cond.code (am_name 37) (am_bytes 37) (am_mxl 37) (am_ret 37) ∈ tables_1_3 := List.mem_of_getElem? (i := 58) rfl
theorem am_cw38 : Cond.code (am_name 38) (am_bytes 38) (am_mxl 38) (am_ret 38) ∈ tables_1_3 := List.mem_of_getElem? (i := 62) rfl
theorem am_cw39 : Cond.code (am_name 39) (am_bytes 39) (am_mxl 39) (am_ret 39) ∈ tables_1_3 := List.mem_of_getElem? (i := 65) rfl
theorem am_cw40 : Cond.code (am_name 40) (am_bytes 40) (am_mxl 40) (am_ret 40) ∈ tables_1_3 := List.mem_of_getElem? (i := 69) rfl
theorem am_cw41 : Cond.code (am_name 41) (am_bytes 41) (am_mxl 41) (am_ret 41) ∈ tables_1_3 := List.mem_of_getElem? (i := 72) rfl
theorem am_cw42 : Cond.code (am_name 42) (am_bytes 42) (am_mxl 42) (am_ret 42) ∈ tables_1_3 := List.mem_of_getElem? (i := 78) rfl
theorem am_cw43 : Cond.code (am_name 43) (am_bytes 43) (am_mxl 43) (am_ret 43) ∈ tables_1_3 := List.mem_of_getElem? (i := 83) rfl
theorem am_cw44 : Cond.code (am_name 44) (am_bytes 44) (am_mxl 44) (am_ret 44) ∈ tables_1_3 := List.mem_of_getElem? (i := 87) rfl
theorem am_cw45 : Cond.code (am_name 45) (am_bytes 45) (am_mxl 45) (am_ret 45) ∈ tables_1_3 := List.mem_of_getElem? (i := 91) rfl
theorem am_cw46 : Cond.code (am_name 46) (am_bytes 46) (am_mxl 46) (am_ret 46) ∈ tables_1_3 := List.mem_of_getElem? (i := 95) rfl
theorem am_cw47 : Cond.code (am_name 47) (am_bytes 47) (am_mxl 47) (am_ret 47) ∈ tables_1_3 := List.mem_of_getElem? (i := 99) rfl
theorem am_cw48 : Cond.code (am_name 48) (am_bytes 48) (am_mxl 48) (am_ret 48) ∈ tables_1_3 := List.mem_of_getElem? (i := 104) rfl
theorem am_cw49 : Cond.code (am_name 49) (am_bytes 49) (am_mxl 49) (am_ret 49) ∈ tables_1_3 := List.mem_of_getElem? (i := 108) rfl
theorem am_cw50 : Cond.code (am_name 50) (am_bytes 50) (am_mxl 50) (am_ret 50) ∈ tables_1_3 := List.mem_of_getElem? (i := 112) rfl
theorem am_cw51 : Cond.code (am_name 51) (am_bytes 51) (am_mxl 51) (am_ret 51) ∈ tables_1_3 := List.mem_of_getElem? (i := 116) rfl
theorem am_cw52 : Cond.code (am_name 52) (am_bytes 52) (am_mxl 52) (am_ret 52) ∈ tables_1_3 := List.mem_of_getElem? (i := 123) rfl
theorem am_cw53 : Cond.code (am_name 53) (am_bytes 53) (am_mxl 53) (am_ret 53) ∈ tables_1_3 := List.mem_of_getElem? (i := 126) rfl
theorem am_cw54 : Cond.code (am_name 54) (am_bytes 54) (am_mxl 54) (am_ret 54) ∈ tables_1_3 := List.mem_of_getElem? (i := 130) rfl
theorem am_cw55 : Cond.code (am_name 55) (am_bytes 55) (am_mxl 55) (am_ret 55) ∈ tables_1_3 := List.mem_of_getElem? (i := 134) rfl
theorem am_cw56 : Cond.code (am_name 56) (am_bytes 56) (am_mxl 56) (am_ret 56) ∈ tables_1_3 := List.mem_of_getElem? (i := 139) rfl
theorem am_cw57 : Cond.code (am_name 57) (am_bytes 57) (am_mxl 57) (am_ret 57) ∈ tables_1_3 := List.mem_of_getElem? (i := 143) rfl
theorem am_cw58 : Cond.code (am_name 58) (am_bytes 58) (am_mxl 58) (am_ret 58) ∈ tables_1_3 := List.mem_of_getElem? (i := 147) rfl
theorem am_cw59 : Cond.code (am_name 59) (am_bytes 59) (am_mxl 59) (am_ret 59) ∈ tables_1_3 := List.mem_of_getElem? (i := 151) rfl
theorem am_cw60 : Cond.code (am_name 60) (am_bytes 60) (am_mxl 60) (am_ret 60) ∈ tables_1_3 := List.mem_of_getElem? (i := 155) rfl
theorem am_cw61 : Cond.code (am_name 61) (am_bytes 61) (am_mxl 61) (am_ret 61) ∈ tables_1_3 := List.mem_of_getElem? (i := 159) rfl
theorem am_cw62 : Cond.code (am_name 62) (am_bytes 62) (am_mxl 62) (am_ret 62) ∈ tables_1_3 := List.mem_of_getElem? (i := 164) rfl
theorem am_cw63 : Cond.code (am_name 63) (am_bytes 63) (am_mxl 63) (am_ret 63) ∈ tables_1_3 := List.mem_of_getElem? (i := 168) rfl
theorem am_cw64 : Cond.code (am_name 64) (am_bytes 64) (am_mxl 64) (am_ret 64) ∈ tables_1_3 := List.mem_of_getElem? (i := 172) rfl
theorem am_cw65 : Cond.code (am_name 65) (am_bytes 65) (am_mxl 65) (am_ret 65) ∈ tables_1_3 := List.mem_of_getElem? (i := 176) rfl
theorem am_cw66 : Cond.code (am_name 66) (am_bytes 66) (am_mxl 66) (am_ret 66) ∈ tables_1_3 := List.mem_of_getElem? (i := 180) rfl
theorem am_cw67 : Cond.code (am_name 67) (am_bytes 67) (am_mxl 67) (am_ret 67) ∈ tables_1_3 := List.mem_of_getElem? (i := 184) rfl
theorem am_cw68 : Cond.code (am_name 68) (am_bytes 68) (am_mxl 68) (am_ret 68) ∈ tables_1_3 := List.mem_of_getElem? (i := 188) rfl
theorem am_cw69 : Cond.code (am_name 69) (am_bytes 69) (am_mxl 69) (am_ret 69) ∈ tables_1_3 := List.mem_of_getElem? (i := 195) rfl
theorem am_cw70 : Cond.code (am_name 70) (am_bytes 70) (am_mxl 70) (am_ret 70) ∈ tables_1_3 := List.mem_of_getElem? (i := 199) rfl
theorem am_cw71 : Cond.code (am_name 71) (am_bytes 71) (am_mxl 71) (am_ret 71) ∈ tables_1_3 := List.mem_of_getElem? (i := 203) rfl
theorem am_cw72 : Cond.code (am_name 72) (am_bytes 72) (am_mxl 72) (am_ret 72) ∈ tables_1_3 := List.mem_of_getElem? (i := 207) rfl
theorem am_cw74 : Cond.code (am_name 74) (am_bytes 74) (am_mxl 74) (am_ret 74) ∈ tables_1_3 := List.mem_of_getElem? (i := 214) rfl
theorem am_cw75 : Cond.code (am_name 75) (am_bytes 75) (am_mxl 75) (am_ret 75) ∈ tables_1_3 := List.mem_of_getElem? (i := 218) rfl
theorem am_cw76 : Cond.code (am_name 76) (am_bytes 76) (am_mxl 76) (am_ret 76) ∈ tables_1_3 := List.mem_of_getElem? (i := 222) rfl
theorem am_cw77 : Cond.code (am_name 77) (am_bytes 77) (am_mxl 77) (am_ret 77) ∈ tables_1_3 := List.mem_of_getElem? (i := 226) rfl
theorem am_cw78 : Cond.code (am_name 78) (am_bytes 78) (am_mxl 78) (am_ret 78) ∈ tables_1_3 := List.mem_of_getElem? (i := 229) rfl
theorem am_cw79 : Cond.code (am_name 79) (am_bytes 79) (am_mxl 79) (am_ret 79) ∈ tables_1_3 := List.mem_of_getElem? (i := 233) rfl
theorem am_cw80 : Cond.code (am_name 80) (am_bytes 80) (am_mxl 80) (am_ret 80) ∈ tables_1_3 := List.mem_of_getElem? (i := 237) rfl
theorem am_cw81 : Cond.code (am_name 81) (am_bytes 81) (am_mxl 81) (am_ret 81) ∈ tables_1_4 := List.mem_of_getElem? (i := 4) rfl
theorem am_cw82 : Cond.code (am_name 82) (am_bytes 82) (am_mxl 82) (am_ret 82) ∈ tables_1_4 := List.mem_of_getElem? (i := 8) rfl
theorem am_cw83 : Cond.code (am_name 83) (am_bytes 83) (am_mxl 83) (am_ret 83) ∈ tables_1_4 := List.mem_of_getElem? (i := 12) rfl
theorem am_cw84 : Cond.code (am_name 84) (am_bytes 84) (am_mxl 84) (am_ret 84) ∈ tables_1_4 := List.mem_of_getElem? (i := 16) rfl
theorem am_cw85 : Cond.code (am_name 85) (am_bytes 85) (am_mxl 85) (am_ret 85) ∈ tables_1_4 := List.mem_of_getElem? (i := 20) rfl
theorem am_cw86 : Cond.code (am_name 86) (am_bytes 86) (am_mxl 86) (am_ret 86) ∈ tables_1_4 := List.mem_of_getElem? (i := 24) rfl
theorem am_cw87 : Cond.code (am_name 87) (am_bytes 87) (am_mxl 87) (am_ret 87) ∈ tables_1_4 := List.mem_of_getElem? (i := 28) rfl
theorem am_cw88 : Cond.code (am_name 88) (am_bytes 88) (am_mxl 88) (am_ret 88) ∈ tables_1_4 := List.mem_of_getElem? (i := 32) rfl
theorem am_cw89 : Cond.code (am_name 89) (am_bytes 89) (am_mxl 89) (am_ret 89) ∈ tables_1_4 := List.mem_of_getElem? (i := 36) rfl
theorem am_cw90 : Cond.code (am_name 90) (am_bytes 90) (am_mxl 90) (am_ret 90) ∈ tables_1_4 := List.mem_of_getElem? (i := 40) rfl
theorem am_cw91 : Cond.code (am_name 91) (am_bytes 91) (am_mxl 91) (am_ret 91) ∈ tables_1_4 := List.mem_of_getElem? (i := 44) rfl
theorem am_cw92 : Cond.code (am_name 92) (am_bytes 92) (am_mxl 92) (am_ret 92) ∈ tables_1_4 := List.mem_of_getElem? (i := 48) rfl
theorem am_cw93 : Cond.code (am_name 93) (am_bytes 93) (am_mxl 93) (am_ret 93) ∈ tables_1_4 := List.mem_of_getElem? (i := 52) rfl
theorem am_cw94 : Cond.code (am_name 94) (am_bytes 94) (am_mxl 94) (am_ret 94) ∈ tables_1_4 := List.mem_of_getElem? (i := 56) rfl
theorem am_cw95 : Cond.code (am_name 95) (am_bytes 95) (am_mxl 95) (am_ret 95) ∈ tables_1_4 := List.mem_of_getElem? (i := 61) rfl
theorem am_cw96 : Cond.code (am_name 96) (am_bytes 96) (am_mxl 96) (am_ret 96) ∈ tables_1_4 := List.mem_of_getElem? (i := 65) rfl
theorem am_cw97 : Cond.code (am_name 97) (am_bytes 97) (am_mxl 97) (am_ret 97) ∈ tables_1_4 := List.mem_of_getElem? (i := 69) rfl
theorem am_cw98 : Cond.code (am_name 98) (am_bytes 98) (am_mxl 98) (am_ret 98) ∈ tables_1_4 := List.mem_of_getElem? (i := 73) rfl
theorem am_cw99 : Cond.code (am_name 99) (am_bytes 99) (am_mxl 99) (am_ret 99) ∈ tables_1_4 := List.mem_of_getElem? (i := 77) rfl
theorem am_cw100 : Cond.code (am_name 100) (am_bytes 100) (am_mxl 100) (am_ret 100) ∈ tables_1_4 := List.mem_of_getElem? (i := 81) rfl
theorem am_cw101 : Cond.code (am_name 101) (am_bytes 101) (am_mxl 101) (am_ret 101) ∈ tables_1_4 := List.mem_of_getElem? (i := 85) rfl
theorem am_cw102 : Cond.code (am_name 102) (am_bytes 102) (am_mxl 102) (am_ret 102) ∈ tables_1_4 := List.mem_of_getElem? (i := 89) rfl
theorem am_cw103 : Cond.code (am_name 103) (am_bytes 103) (am_mxl 103) (am_ret 103) ∈ tables_1_4 := List.mem_of_getElem? (i := 93) rfl
theorem am_cw104 : Cond.code (am_name 104) (am_bytes 104) (am_mxl 104) (am_ret 104) ∈ tables_1_4 := List.mem_of_getElem? (i := 97) rfl
theorem am_cw105 : Cond.code (am_name 105) (am_bytes 105) (am_mxl 105) (am_ret 105) ∈ tables_1_4 := List.mem_of_getElem? (i := 101) rfl
theorem am_cw106 : Cond.code (am_name 106) (am_bytes 106) (am_mxl 106) (am_ret 106) ∈ tables_1_4 := List.mem_of_getElem? (i := 105) rfl
theorem am_cw107 : Cond.code (am_name 107) (am_bytes 107) (am_mxl 107) (am_ret 107) ∈ tables_1_4 := List.mem_of_getElem? (i := 108) rfl
theorem am_cw108 : Cond.code (am_name 108) (am_bytes 108) (am_mxl 108) (am_ret 108) ∈ tables_1_4 := List.mem_of_getElem? (i := 114) rfl
theorem am_cw109 : Cond.code (am_name 109) (am_bytes 109) (am_mxl 109) (am_ret 109) ∈ tables_1_4 := List.mem_of_getElem? (i := 118) rfl
theorem am_cw110 : Cond.code (am_name 110) (am_bytes 110) (am_mxl 110) (am_ret 110) ∈ tables_1_4 := List.mem_of_getElem? (i := 122) rfl
theorem am_cw111 : Cond.code (am_name 111) (am_bytes 111) (am_mxl 111) (am_ret 111) ∈ tables_1_4 := List.mem_of_getElem? (i := 125) rfl
theorem am_cw112 : Cond.code (am_name 112) (am_bytes 112) (am_mxl 112) (am_ret 112) ∈ tables_1_4 := List.mem_of_getElem? (i := 133) rfl
theorem am_cw113 : Cond.code (am_name 113) (am_bytes 113) (am_mxl 113) (am_ret 113) ∈ tables_1_4 := List.mem_of_getElem? (i := 137) rfl
theorem am_cw114 : Cond.code (am_name 114) (am_bytes 114) (am_mxl 114) (am_ret 114) ∈ tables_1_4 := List.mem_of_getElem? (i := 141) rfl
theorem am_cw115 : Cond.code (am_name 115) (am_bytes 115) (am_mxl 115) (am_ret 115) ∈ tables_1_4 := List.mem_of_getElem? (i := 145) rfl
theorem am_cw116 : Cond.code (am_name 116) (am_bytes 116) (am_mxl 116) (am_ret 116) ∈ tables_1_4 := List.mem_of_getElem? (i := 149) rfl
theorem am_cw117 : Cond.code (am_name 117) (am_bytes 117) (am_mxl 117) (am_ret 117) ∈ tables_1_4 := List.mem_of_getElem? (i := 153) rfl
theorem am_cw118 : Cond.code (am_name 118) (am_bytes 118) (am_mxl 118) (am_ret 118) ∈ tables_1_4 := List.mem_of_getElem? (i := 158) rfl
theorem am_cw119 : Cond.code (am_name 119) (am_bytes 119) (am_mxl 119) (am_ret 119) ∈ tables_1_4 := List.mem_of_getElem? (i := 164) rfl
theorem am_cw120 : Cond.code (am_name 120) (am_bytes 120) (am_mxl 120) (am_ret 120) ∈ tables_1_4 := List.mem_of_getElem? (i := 168) rfl
theorem am_cw121 : Cond.code (am_name 121) (am_bytes 121) (am_mxl 121) (am_ret 121) ∈ tables_1_4 := List.mem_of_getElem? (i := 172) rfl
theorem am_cw122 : Cond.code (am_name 122) (am_bytes 122) (am_mxl 122) (am_ret 122) ∈ tables_1_4 := List.mem_of_getElem? (i := 176) rfl
theorem am_cw123 : Cond.code (am_name 123) (am_bytes 123) (am_mxl 123) (am_ret 123) ∈ tables_1_4 := List.mem_of_getElem? (i := 181) rfl
theorem am_cw124 : Cond.code (am_name 124) (am_bytes 124) (am_mxl 124) (am_ret 124) ∈ tables_1_4 := List.mem_of_getElem? (i := 186) rfl
theorem am_cw125 : Cond.code (am_name 125) (am_bytes 125) (am_mxl 125) (am_ret 125) ∈ tables_1_4 := List.mem_of_getElem? (i := 191) rfl
theorem am_cw126 : Cond.code (am_name 126) (am_bytes 126) (am_mxl 126) (am_ret 126) ∈ tables_1_4 := List.mem_of_getElem? (i := 195) rfl
theorem am_cw127 : Cond.code (am_name 127) (am_bytes 127) (am_mxl 127) (am_ret 127) ∈ tables_1_4 := List.mem_of_getElem? (i := 201) rfl
theorem am_cw128 : Cond.code (am_name 128) (am_bytes 128) (am_mxl 128) (am_ret 128) ∈ tables_1_4 := List.mem_of_getElem? (i := 206) rfl
theorem am_cw129 : Cond.code (am_name 129) (am_bytes 129) (am_mxl 129) (am_ret 129) ∈ tables_1_4 := List.mem_of_getElem? (i := 211) rfl
theorem am_cw130 : Cond.code (am_name 130) (am_bytes 130) (am_mxl 130) (am_ret 130) ∈ tables_1_4 := List.mem_of_getElem? (i := 215) rfl
theorem am_cw131 : Cond.code (am_name 131) (am_bytes 131) (am_mxl 131) (am_ret 131) ∈ tables_1_4 := List.mem_of_getElem? (i := 226) rfl
theorem am_cw132 : Cond.code (am_name 132) (am_bytes 132) (am_mxl 132) (am_ret 132) ∈ tables_1_4 := List.mem_of_getElem? (i := 230) rfl
theorem am_cw133 : Cond.code (am_name 133) (am_bytes 133) (am_mxl 133) (am_ret 133) ∈ tables_1_4 := List.mem_of_getElem? (i := 234) rfl
theorem am_cw134 : Cond.code (am_name 134) (am_bytes 134) (am_mxl 134) (am_ret 134) ∈ tables_1_4 := List.mem_of_getElem? (i := 238) rfl
theorem am_cw135 : Cond.code (am_name 135) (am_bytes 135) (am_mxl 135) (am_ret 135) ∈ tables_1_5 := List.mem_of_getElem? (i := 5) rfl
theorem am_cw136 : Cond.code (am_name 136) (am_bytes 136) (am_mxl 136) (am_ret 136) ∈ tables_1_5 := List.mem_of_getElem? (i := 9) rfl
theorem am_cw137 : Cond.code (am_name 137) (am_bytes 137) (am_mxl 137) (am_ret 137) ∈ tables_1_5 := List.mem_of_getElem? (i := 20) rfl
theorem am_cw138 : Cond.code (am_name 138) (am_bytes 138) (am_mxl 138) (am_ret 138) ∈ tables_1_5 := List.mem_of_getElem? (i := 24) rfl
theorem am_cw139 : Cond.code (am_name 139) (am_bytes 139) (am_mxl 139) (am_ret 139) ∈ tables_1_5 := List.mem_of_getElem? (i := 29) rfl
theorem am_cw140 : Cond.code (am_name 140) (am_bytes 140) (am_mxl 140) (am_ret 140) ∈ tables_1_5 := List.mem_of_getElem? (i := 36) rfl
theorem am_cw141 : Cond.code (am_name 141) (am_bytes 141) (am_mxl 141) (am_ret 141) ∈ tables_1_5 := List.mem_of_getElem? (i := 39) rfl
theorem am_cw142 : Cond.code (am_name 142) (am_bytes 142) (am_mxl 142) (am_ret 142) ∈ tables_1_5 := List.mem_of_getElem? (i := 43) rfl
theorem am_cw143 : Cond.code (am_name 143) (am_bytes 143) (am_mxl 143) (am_ret 143) ∈ tables_1_5 := List.mem_of_getElem? (i := 48) rfl
theorem am_cw144 : Cond.code (am_name 144) (am_bytes 144) (am_mxl 144) (am_ret 144) ∈ tables_1_5 := List.mem_of_getElem? (i := 52) rfl
theorem am_cw145 : Cond.code (am_name 145) (am_bytes 145) (am_mxl 145) (am_ret 145) ∈ tables_1_5 := List.mem_of_getElem? (i := 56) rfl
theorem am_cw146 : Cond.code (am_name 146) (am_bytes 146) (am_mxl 146) (am_ret 146) ∈ tables_1_5 := List.mem_of_getElem? (i := 60) rfl
theorem am_cw147 : Cond.code (am_name 147) (am_bytes 147) (am_mxl 147) (am_ret 147) ∈ tables_1_5 := List.mem_of_getElem? (i := 64) rfl
theorem am_cw148 : Cond.code (am_name 148) (am_bytes 148) (am_mxl 148) (am_ret 148) ∈ tables_1_5 := List.mem_of_getElem? (i := 69) rfl
theorem am_cw149 : Cond.code (am_name 149) (am_bytes 149) (am_mxl 149) (am_ret 149) ∈ tables_1_5 := List.mem_of_getElem? (i := 73) rfl
theorem am_cw150 : Cond.code (am_name 150) (am_bytes 150) (am_mxl 150) (am_ret 150) ∈ tables_1_5 := List.mem_of_getElem? (i := 77) rfl
theorem am_cw151 : Cond.code (am_name 151) (am_bytes 151) (am_mxl 151) (am_ret 151) ∈ tables_1_5 := List.mem_of_getElem? (i := 81) rfl
theorem am_cw152 : Cond.code (am_name 152) (am_bytes 152) (am_mxl 152) (am_ret 152) ∈ tables_1_5 := List.mem_of_getElem? (i := 86) rfl
theorem am_cw153 : Cond.code (am_name 153) (am_bytes 153) (am_mxl 153) (am_ret 153) ∈ tables_1_5 := List.mem_of_getElem? (i := 209) rfl
theorem am_cw154 : Cond.code (am_name 154) (am_bytes 154) (am_mxl 154) (am_ret 154) ∈ tables_1_5 := List.mem_of_getElem? (i := 213) rfl
theorem am_cw155 : Cond.code (am_name 155) (am_bytes 155) (am_mxl 155) (am_ret 155) ∈ tables_1_5 := List.mem_of_getElem? (i := 217) rfl
theorem am_cw156 : Cond.code (am_name 156) (am_bytes 156) (am_mxl 156) (am_ret 156) ∈ tables_1_5 := List.mem_of_getElem? (i := 221) rfl
theorem am_cw157 : Cond.code (am_name 157) (am_bytes 157) (am_mxl 157) (am_ret 157) ∈ tables_1_5 := List.mem_of_getElem? (i := 225) rfl
theorem am_cw158 : Cond.code (am_name 158) (am_bytes 158) (am_mxl 158) (am_ret 158) ∈ tables_1_5 := List.mem_of_getElem? (i := 229) rfl
theorem am_cw159 : Cond.code (am_name 159) (am_bytes 159) (am_mxl 159) (am_ret 159) ∈ tables_1_5 := List.mem_of_getElem? (i := 233) rfl
theorem am_cw160 : Cond.code (am_name 160) (am_bytes 160) (am_mxl 160) (am_ret 160) ∈ tables_1_6 := List.mem_of_getElem? (i := 0) rfl
theorem am_cw161 : Cond.code (am_name 161) (am_bytes 161) (am_mxl 161) (am_ret 161) ∈ tables_1_6 := List.mem_of_getElem? (i := 4) rfl
theorem am_cw162 : Cond.code (am_name 162) (am_bytes 162) (am_mxl 162) (am_ret 162) ∈ tables_1_6 := List.mem_of_getElem? (i := 8) rfl
theorem am_cw163 : Cond.code (am_name 163) (am_bytes 163) (am_mxl 163) (am_ret 163) ∈ tables_1_6 := List.mem_of_getElem? (i := 12) rfl
theorem am_cw164 : Cond.code (am_name 164) (am_bytes 164) (am_mxl 164) (am_ret 164) ∈ tables_1_6 := List.mem_of_getElem? (i := 16) rfl
theorem am_cw165 : Cond.code (am_name 165) (am_bytes 165) (am_mxl 165) (am_ret 165) ∈ tables_1_6 := List.mem_of_getElem? (i := 21) rfl
theorem am_cw166 : Cond.code (am_name 166) (am_bytes 166) (am_mxl 166) (am_ret 166) ∈ tables_1_6 := List.mem_of_getElem? (i := 25) rfl
theorem am_cw167 : Cond.code (am_name 167) (am_bytes 167) (am_mxl 167) (am_ret 167) ∈ tables_1_6 := List.mem_of_getElem? (i := 29) rfl
theorem am_cw168 : Cond.code (am_name 168) (am_bytes 168) (am_mxl 168) (am_ret 168) ∈ tables_1_6 := List.mem_of_getElem? (i := 33) rfl
theorem am_cw169 : Cond.code (am_name 169) (am_bytes 169) (am_mxl 169) (am_ret 169) ∈ tables_1_6 := List.mem_of_getElem? (i := 37) rfl
theorem am_cw170 : Cond.code (am_name 170) (am_bytes 170) (am_mxl 170) (am_ret 170) ∈ tables_1_6 := List.mem_of_getElem? (i := 41) rfl
theorem am_cw171 : Cond.code (am_name 171) (am_bytes 171) (am_mxl 171) (am_ret 171) ∈ tables_1_6 := List.mem_of_getElem? (i := 46) rfl
theorem am_cw172 : Cond.code (am_name 172) (am_bytes 172) (am_mxl 172) (am_ret 172) ∈ tables_1_6 := List.mem_of_getElem? (i := 50) rfl
theorem am_cw173 : Cond.code (am_name 173) (am_bytes 173) (am_mxl 173) (am_ret 173) ∈ tables_1_6 := List.mem_of_getElem? (i := 54) rfl
theorem am_cw174 : Cond.code (am_name 174) (am_bytes 174) (am_mxl 174) (am_ret 174) ∈ tables_1_6 := List.mem_of_getElem? (i := 58) rfl
theorem am_cw175 : Cond.code (am_name 175) (am_bytes 175) (am_mxl 175) (am_ret 175) ∈ tables_1_6 := List.mem_of_getElem? (i := 62) rfl
theorem am_cw176 : Cond.code (am_name 176) (am_bytes 176) (am_mxl 176) (am_ret 176) ∈ tables_1_6 := List.mem_of_getElem? (i := 66) rfl
theorem am_cw177 : Cond.code (am_name 177) (am_bytes 177) (am_mxl 177) (am_ret 177) ∈ tables_1_6 := List.mem_of_getElem? (i := 70) rfl
theorem am_cw178 : Cond.code (am_name 178) (am_bytes 178) (am_mxl 178) (am_ret 178) ∈ tables_1_6 := List.mem_of_getElem? (i := 74) rfl
theorem am_cw179 : Cond.code (am_name 179) (am_bytes 179) (am_mxl 179) (am_ret 179) ∈ tables_1_6 := List.mem_of_getElem? (i := 78) rfl
theorem am_cw180 : Cond.code (am_name 180) (am_bytes 180) (am_mxl 180) (am_ret 180) ∈ tables_1_6 := List.mem_of_getElem? (i := 82) rfl
theorem am_cw181 : Cond.code (am_name 181) (am_bytes 181) (am_mxl 181) (am_ret 181) ∈ tables_1_6 := List.mem_of_getElem? (i := 86) rfl
theorem am_cw182 : Cond.code (am_name 182) (am_bytes 182) (am_mxl 182) (am_ret 182) ∈ tables_1_6 := List.mem_of_getElem? (i := 90) rfl
theorem am_cw183 : Cond.code (am_name 183) (am_bytes 183) (am_mxl 183) (am_ret 183) ∈ tables_1_6 := List.mem_of_getElem? (i := 94) rfl
theorem am_cw184 : Cond.code (am_name 184) (am_bytes 184) (am_mxl 184) (am_ret 184) ∈ tables_1_6 := List.mem_of_getElem? (i := 98) rfl
theorem am_cw185 : Cond.code (am_name 185) (am_bytes 185) (am_mxl 185) (am_ret 185) ∈ tables_1_6 := List.mem_of_getElem? (i := 102) rfl
theorem am_cw186 : Cond.code (am_name 186) (am_bytes 186) (am_mxl 186) (am_ret 186) ∈ tables_1_6 := List.mem_of_getElem? (i := 106) rfl
theorem am_cw187 : Cond.code (am_name 187) (am_bytes 187) (am_mxl 187) (am_ret 187) ∈ tables_1_6 := List.mem_of_getElem? (i := 110) rfl
theorem am_cw188 : Cond.code (am_name 188) (am_bytes 188) (am_mxl 188) (am_ret 188) ∈ tables_1_6 := List.mem_of_getElem? (i := 114) rfl
theorem am_cw189 : Cond.code (am_name 189) (am_bytes 189) (am_mxl 189) (am_ret 189) ∈ tables_1_6 := List.mem_of_getElem? (i := 118) rfl
theorem am_cw190 : Cond.code (am_name 190) (am_bytes 190) (am_mxl 190) (am_ret 190) ∈ tables_1_6 := List.mem_of_getElem? (i := 122) rfl
theorem am_cw191 : Cond.code (am_name 191) (am_bytes 191) (am_mxl 191) (am_ret 191) ∈ tables_1_6 := List.mem_of_getElem? (i := 126) rfl
theorem am_cw192 : Cond.code (am_name 192) (am_bytes 192) (am_mxl 192) (am_ret 192) ∈ tables_1_6 := List.mem_of_getElem? (i := 130) rfl
theorem am_cw193 : Cond.code (am_name 193) (am_bytes 193) (am_mxl 193) (am_ret 193) ∈ tables_1_6 := List.mem_of_getElem? (i := 135) rfl
theorem am_cw194 : Cond.code (am_name 194) (am_bytes 194) (am_mxl 194) (am_ret 194) ∈ tables_1_6 := List.mem_of_getElem? (i := 139) rfl
theorem am_cw195 : Cond.code (am_name 195) (am_bytes 195) (am_mxl 195) (am_ret 195) ∈ tables_1_6 := List.mem_of_getElem? (i := 142) rfl
theorem am_cw196 : Cond.code (am_name 196) (am_bytes 196) (am_mxl 196) (am_ret 196) ∈ tables_1_6 := List.mem_of_getElem? (i := 147) rfl
theorem am_cw197 : Cond.code (am_name 197) (am_bytes 197) (am_mxl 197) (am_ret 197) ∈ tables_1_6 := List.mem_of_getElem? (i := 151) rfl
theorem am_cw198 : Cond.code (am_name 198) (am_bytes 198) (am_mxl 198) (am_ret 198) ∈ tables_1_6 := List.mem_of_getElem? (i := 155) rfl
theorem am_cw199 : Cond.code (am_name 199) (am_bytes 199) (am_mxl 199) (am_ret 199) ∈ tables_1_6 := List.mem_of_getElem? (i := 159) rfl
theorem am_cw200 : Cond.code (am_name 200) (am_bytes 200) (am_mxl 200) (am_ret 200) ∈ tables_1_6 := List.mem_of_getElem? (i := 163) rfl
theorem am_cw201 : Cond.code (am_name 201) (am_bytes 201) (am_mxl 201) (am_ret 201) ∈ tables_1_6 := List.mem_of_getElem? (i := 167) rfl
theorem am_cw202 : Cond.code (am_name 202) (am_bytes 202) (am_mxl 202) (am_ret 202) ∈ tables_1_6 := List.mem_of_getElem? (i := 171) rfl
theorem am_cw203 : Cond.code (am_name 203) (am_bytes 203) (am_mxl 203) (am_ret 203) ∈ tables_1_6 := List.mem_of_getElem? (i := 175) rfl
theorem am_cw204 : Cond.code (am_name 204) (am_bytes 204) (am_mxl 204) (am_ret 204) ∈ tables_1_6 := List.mem_of_getElem? (i := 179) rfl
theorem am_cw205 : Cond.code (am_name 205) (am_bytes 205) (am_mxl 205) (am_ret 205) ∈ tables_1_6 := List.mem_of_getElem? (i := 183) rfl
theorem am_cw206 : Cond.code (am_name 206) (am_bytes 206) (am_mxl 206) (am_ret 206) ∈ tables_1_6 := List.mem_of_getElem? (i := 187) rfl
theorem am_cw207 : Cond.code (am_name 207) (am_bytes 207) (am_mxl 207) (am_ret 207) ∈ tables_1_6 := List.mem_of_getElem? (i := 192) rfl
def am_mks0 : List Nat := [0, 1, 2, 3, 4, 5, 7, 8, 9, 10, 11, 12, 13, 14, 15, 16, 17, 18, 19, 20, 21, 22, 23, 24, 25, 26, 27, 29, 30, 31]
theorem am_mks0_ok : ∀ k ∈ am_mks0, Cond.code (am_name k) (am_bytes k) (am_mxl k) (am_ret k) ∈ lw_tbl := List.forall_mem_cons.mpr ⟨am_tb1 am_cw0, List.forall_mem_cons.mpr ⟨am_tb1 am_cw1, List.forall_mem_cons.mpr ⟨am_tb1 am_cw2, List.forall_mem_cons.mpr ⟨am_tb1 am_cw3, List.forall_mem_cons.mpr ⟨am_tb1 am_cw4, List.forall_mem_cons.mpr ⟨am_tb1 am_cw5, List.forall_mem_cons.mpr ⟨am_tb1 am_cw7, List.forall_mem_cons.mpr ⟨am_tb1 am_cw8, List.forall_mem_cons.mpr ⟨am_tb1 am_cw9, List.forall_mem_cons.mpr ⟨am_tb1 am_cw10, List.forall_mem_cons.mpr ⟨am_tb2 am_cw11, List.forall_mem_cons.mpr ⟨am_tb2 am_cw12, List.forall_mem_cons.mpr ⟨am_tb2 am_cw13, List.forall_mem_cons.mpr ⟨am_tb2 am_cw14, List.forall_mem_cons.mpr ⟨am_tb2 am_cw15, List.forall_mem_cons.mpr ⟨am_tb2 am_cw16, List.forall_mem_cons.mpr ⟨am_tb2 am_cw17, List.forall_mem_cons.mpr ⟨am_tb2 am_cw18, List.forall_mem_cons.mpr ⟨am_tb2 am_cw19, List.forall_mem_cons.mpr ⟨am_tb2 am_cw20, List.forall_mem_cons.mpr ⟨am_tb2 am_cw21, List.forall_mem_cons.mpr ⟨am_tb2 am_cw22, List.forall_mem_cons.mpr ⟨am_tb3 am_cw23, List.forall_mem_cons.mpr ⟨am_tb3 am_cw24, List.forall_mem_cons.mpr ⟨am_tb3 am_cw25, List.forall_mem_cons.mpr ⟨am_tb3 am_cw26, List.forall_mem_cons.mpr ⟨am_tb3 am_cw27, List.forall_mem_cons.mpr ⟨am_tb3 am_cw29, List.forall_mem_cons.mpr ⟨am_tb3 am_cw30, List.forall_mem_cons.mpr ⟨am_tb3 am_cw31, fun _ h => absurd h List.not_mem_nil⟩⟩⟩⟩⟩⟩⟩⟩⟩⟩⟩⟩⟩⟩⟩⟩⟩⟩⟩⟩⟩⟩⟩⟩⟩⟩⟩⟩⟩⟩
def am_mks1 : List Nat := [32, 33, 34, 35, 36, 37, 38, 39, 40, 41, 42, 43, 44, 45, 46, 47, 48, 49, 50, 51, 52, 53, 54, 55, 56, 57, 58, 59, 60, 61]
theorem am_mks1_ok : ∀ k ∈ am_mks1, Cond.code (am_name k) (am_bytes k) (am_mxl k) (am_ret k) ∈ lw_tbl := List.forall_mem_cons.mpr ⟨am_tb3 am_cw32, List.forall_mem_cons.mpr ⟨am_tb3 am_cw33, List.forall_mem_cons.mpr ⟨am_tb3 am_cw34, List.forall_mem_cons.mpr ⟨am_tb3 am_cw35, List.forall_mem_cons.mpr ⟨am_tb3 am_cw36, List.forall_mem_cons.mpr ⟨am_tb3 am_cw37, List.forall_mem_cons.mpr ⟨am_tb3 am_cw38, List.forall_mem_cons.mpr ⟨am_tb3 am_cw39, List.forall_mem_cons.mpr ⟨am_tb3 am_cw40, List.forall_mem_cons.mpr ⟨am_tb3 am_cw41, List.forall_mem_cons.mpr ⟨am_tb3 am_cw42, List.forall_mem_cons.mpr ⟨am_tb3 am_cw43, List.forall_mem_cons.mpr ⟨am_tb3 am_cw44, List.forall_mem_cons.mpr ⟨am_tb3 am_cw45, List.forall_mem_cons.mpr ⟨am_tb3 am_cw46, List.forall_mem_cons.mpr ⟨am_tb3 am_cw47, List.forall_mem_cons.mpr ⟨am_tb3 am_cw48, List.forall_mem_cons.mpr ⟨am_tb3 am_cw49, List.forall_mem_cons.mpr ⟨am_tb3 am_cw50, List.forall_mem_cons.mpr ⟨am_tb3 am_cw51, List.forall_mem_cons.mpr ⟨am_tb3 am_cw52, List.forall_mem_cons.mpr ⟨am_tb3 am_cw53, List.forall_mem_cons.mpr ⟨am_tb3 am_cw54, List.forall_mem_cons.mpr ⟨am_tb3 am_cw55, List.forall_mem_cons.mpr ⟨am_tb3 am_cw56, List.forall_mem_cons.mpr ⟨am_tb3 am_cw57, List.forall_mem_cons.mpr ⟨am_tb3 am_cw58, List.forall_mem_cons.mpr ⟨am_tb3 am_cw59, List.forall_mem_cons.mpr ⟨am_tb3 am_cw60, List.forall_mem_cons.mpr ⟨am_tb3 am_cw61, fun _ h => absurd h List.not_mem_nil⟩⟩⟩⟩⟩⟩⟩⟩⟩⟩⟩⟩⟩⟩⟩⟩⟩⟩⟩⟩⟩⟩⟩⟩⟩⟩⟩⟩⟩⟩
def am_mks2 : List Nat := [62, 63, 64, 65, 66, 67, 68, 69, 70, 71, 72, 74, 75, 76, 77, 78, 79, 80, 81, 82, 83, 84, 85, 86, 87, 88, 89, 90, 91, 92]
theorem am_mks2_ok : ∀ k ∈ am_mks2, Cond.code (am_name k) (am_bytes k) (am_mxl k) (am_ret k) ∈ lw_tbl := List.forall_mem_cons.mpr ⟨am_tb3 am_cw62, List.forall_mem_cons.mpr ⟨am_tb3 am_cw63, List.forall_mem_cons.mpr ⟨am_tb3 am_cw64, List.forall_mem_cons.mpr ⟨am_tb3 am_cw65, List.forall_mem_cons.mpr ⟨am_tb3 am_cw66, List.forall_mem_cons.mpr ⟨am_tb3 am_cw67, List.forall_mem_cons.mpr ⟨am_tb3 am_cw68, List.forall_mem_cons.mpr ⟨am_tb3 am_cw69, List.forall_mem_cons.mpr ⟨am_tb3 am_cw70, List.forall_mem_cons.mpr ⟨am_tb3 am_cw71, List.forall_mem_cons.mpr ⟨am_tb3 am_cw72, List.forall_mem_cons.mpr ⟨am_tb3 am_cw74, List.forall_mem_cons.mpr ⟨am_tb3 am_cw75, List.forall_mem_cons.mpr ⟨am_tb3 am_cw76, List.forall_mem_cons.mpr ⟨am_tb3 am_cw77, List.forall_mem_cons.mpr ⟨am_tb3 am_cw78, List.forall_mem_cons.mpr ⟨am_tb3 am_cw79, List.forall_mem_cons.mpr ⟨am_tb3 am_cw80, List.forall_mem_cons.mpr ⟨am_tb4 am_cw81, List.forall_mem_cons.mpr ⟨am_tb4 am_cw82, List.forall_mem_cons.mpr ⟨am_tb4 am_cw83, List.forall_mem_cons.mpr ⟨am_tb4 am_cw84, List.forall_mem_cons.mpr ⟨am_tb4 am_cw85, List.forall_mem_cons.mpr ⟨am_tb4 am_cw86, List.forall_mem_cons.mpr ⟨am_tb4 am_cw87, List.forall_mem_cons.mpr ⟨am_tb4 am_cw88, List.forall_mem_cons.mpr ⟨am_tb4 am_cw89, List.forall_mem_cons.mpr ⟨am_tb4 am_cw90, List.forall_mem_cons.mpr ⟨am_tb4 am_cw91, List.forall_mem_cons.mpr ⟨am_tb4 am_cw92, fun _ h => absurd h List.not_mem_nil⟩⟩⟩⟩⟩⟩⟩⟩⟩⟩⟩⟩⟩⟩⟩⟩⟩⟩⟩⟩⟩⟩⟩⟩⟩⟩⟩⟩⟩⟩
def am_mks3 : List Nat := [93, 94, 95, 96, 97, 98, 99, 100, 101, 102, 103, 104, 105, 106, 107, 108, 109, 110, 111, 112, 113, 114, 115, 116, 117, 118, 119, 120, 121, 122]
theorem am_mks3_ok : ∀ k ∈ am_mks3, Cond.code (am_name k) (am_bytes k) (am_mxl k) (am_ret k) ∈ lw_tbl := List.forall_mem_cons.mpr ⟨am_tb4 am_cw93, List.forall_mem_cons.mpr ⟨am_tb4 am_cw94, List.forall_mem_cons.mpr ⟨am_tb4 am_cw95, List.forall_mem_cons.mpr ⟨am_tb4 am_cw96, List.forall_mem_cons.mpr ⟨am_tb4 am_cw97, List.forall_mem_cons.mpr ⟨am_tb4 am_cw98, List.forall_mem_cons.mpr ⟨am_tb4 am_cw99, List.forall_mem_cons.mpr ⟨am_tb4 am_cw100, List.forall_mem_cons.mpr ⟨am_tb4 am_cw101, List.forall_mem_cons.mpr ⟨am_tb4 am_cw102, List.forall_mem_cons.mpr ⟨am_tb4 am_cw103, List.forall_mem_cons.mpr ⟨am_tb4 am_cw104, List.forall_mem_cons.mpr ⟨am_tb4 am_cw105, List.forall_mem_cons.mpr ⟨am_tb4 am_cw106, List.forall_mem_cons.mpr ⟨am_tb4 am_cw107, List.forall_mem_cons.mpr ⟨am_tb4 am_cw108, List.forall_mem_cons.mpr ⟨am_tb4 am_cw109, List.forall_mem_cons.mpr ⟨am_tb4 am_cw110, List.forall_mem_cons.mpr ⟨am_tb4 am_cw111, List.forall_mem_cons.mpr ⟨am_tb4 am_cw112, List.forall_mem_cons.mpr ⟨am_tb4 am_cw113, List.forall_mem_cons.mpr ⟨am_tb4 am_cw114, List.forall_mem_cons.mpr ⟨am_tb4 am_cw115, List.forall_mem_cons.mpr ⟨am_tb4 am_cw116, List.forall_mem_cons.mpr ⟨am_tb4 am_cw117, List.forall_mem_cons.mpr ⟨am_tb4 am_cw118, List.forall_mem_cons.mpr ⟨am_tb4 am_cw119, List.forall_mem_cons.mpr ⟨am_tb4 am_cw120, List.forall_mem_cons.mpr ⟨am_tb4 am_cw121, List.forall_mem_cons.mpr ⟨am_tb4 am_cw122, fun _ h => absurd h List.not_mem_nil⟩⟩⟩⟩⟩⟩⟩⟩⟩⟩⟩⟩⟩⟩⟩⟩⟩⟩⟩⟩⟩⟩⟩⟩⟩⟩⟩⟩⟩⟩
def am_mks4 : List Nat := [123, 124, 125, 126, 127, 128, 129, 130, 131, 132, 133, 134, 135, 136, 137, 138, 139, 140, 141, 142, 143, 144, 145, 146, 147, 148, 149, 150, 151, 152]
theorem am_mks4_ok : ∀ k ∈ am_mks4, Cond.code (am_name k) (am_bytes k) (am_mxl k) (am_ret k) ∈ lw_tbl := List.forall_mem_cons.mpr ⟨am_tb4 am_cw123, List.forall_mem_cons.mpr ⟨am_tb4 am_cw124, List.forall_mem_cons.mpr ⟨am_tb4 am_cw125, List.forall_mem_cons.mpr ⟨am_tb4 am_cw126, List.forall_mem_cons.mpr ⟨am_tb4 am_cw127, List.forall_mem_cons.mpr ⟨am_tb4 am_cw128, List.forall_mem_cons.mpr ⟨am_tb4 am_cw129, List.forall_mem_cons.mpr ⟨am_tb4 am_cw130, List.forall_mem_cons.mpr ⟨am_tb4 am_cw131, List.forall_mem_cons.mpr ⟨am_tb4 am_cw132, List.forall_mem_cons.mpr ⟨am_tb4 am_cw133, List.forall_mem_cons.mpr ⟨am_tb4 am_cw134, List.forall_mem_cons.mpr ⟨am_tb5 am_cw135, List.forall_mem_cons.mpr ⟨am_tb5 am_cw136, List.forall_mem_cons.mpr ⟨am_tb5 am_cw137, List.forall_mem_cons.mpr ⟨am_tb5 am_cw138, List.forall_mem_cons.mpr ⟨am_tb5 am_cw139, List.forall_mem_cons.mpr ⟨am_tb5 am_cw140, List.forall_mem_cons.mpr ⟨am_tb5 am_cw141, List.forall_mem_cons.mpr ⟨am_tb5 am_cw142, List.forall_mem_cons.mpr ⟨am_tb5 am_cw143, List.forall_mem_cons.mpr ⟨am_tb5 am_cw144, List.forall_mem_cons.mpr ⟨am_tb5 am_cw145, List.forall_mem_cons.mpr ⟨am_tb5 am_cw146, List.forall_mem_cons.mpr ⟨am_tb5 am_cw147, List.forall_mem_cons.mpr ⟨am_tb5 am_cw148, List.forall_mem_cons.mpr ⟨am_tb5 am_cw149, List.forall_mem_cons.mpr ⟨am_tb5 am_cw150, List.forall_mem_cons.mpr ⟨am_tb5 am_cw151, List.forall_mem_cons.mpr ⟨am_tb5 am_cw152, fun _ h => absurd h List.not_mem_nil⟩⟩⟩⟩⟩⟩⟩⟩⟩⟩⟩⟩⟩⟩⟩⟩⟩⟩⟩⟩⟩⟩⟩⟩⟩⟩⟩⟩⟩⟩
def am_mks5 : List Nat := [153, 154, 155, 156, 157, 158, 159, 160, 161, 162, 163, 164, 165, 166, 167, 168, 169, 170, 171, 172, 173, 174, 175, 176, 177, 178, 179, 180, 181, 182]
theorem am_mks5_ok : ∀ k ∈ am_mks5, Cond.code (am_name k) (am_bytes k) (am_mxl k) (am_ret k) ∈ lw_tbl := List.forall_mem_cons.mpr ⟨am_tb5 am_cw153, List.forall_mem_cons.mpr ⟨am_tb5 am_cw154, List.forall_mem_cons.mpr ⟨am_tb5 am_cw155, List.forall_mem_cons.mpr ⟨am_tb5 am_cw156, List.forall_mem_cons.mpr ⟨am_tb5 am_cw157, List.forall_mem_cons.mpr ⟨am_tb5 am_cw158, List.forall_mem_cons.mpr ⟨am_tb5 am_cw159, List.forall_mem_cons.mpr ⟨am_tb6 am_cw160, List.forall_mem_cons.mpr ⟨am_tb6 am_cw161, List.forall_mem_cons.mpr ⟨am_tb6 am_cw162, List.forall_mem_cons.mpr ⟨am_tb6 am_cw163, List.forall_mem_cons.mpr ⟨am_tb6 am_cw164, List.forall_mem_cons.mpr ⟨am_tb6 am_cw165, List.forall_mem_cons.mpr ⟨am_tb6 am_cw166, List.forall_mem_cons.mpr ⟨am_tb6 am_cw167, List.forall_mem_cons.mpr ⟨am_tb6 am_cw168, List.forall_mem_cons.mpr ⟨am_tb6 am_cw169, List.forall_mem_cons.mpr ⟨am_tb6 am_cw170, List.forall_mem_cons.mpr ⟨am_tb6 am_cw171, List.forall_mem_cons.mpr ⟨am_tb6 am_cw172, List.forall_mem_cons.mpr ⟨am_tb6 am_cw173, List.forall_mem_cons.mpr ⟨am_tb6 am_cw174, List.forall_mem_cons.mpr ⟨am_tb6 am_cw175, List.forall_mem_cons.mpr ⟨am_tb6 am_cw176, List.forall_mem_cons.mpr ⟨am_tb6 am_cw177, List.forall_mem_cons.mpr ⟨am_tb6 am_cw178, List.forall_mem_cons.mpr ⟨am_tb6 am_cw179, List.forall_mem_cons.mpr ⟨am_tb6 am_cw180, List.forall_mem_cons.mpr ⟨am_tb6 am_cw181, List.forall_mem_cons.mpr ⟨am_tb6 am_cw182, fun _ h => absurd h List.not_mem_nil⟩⟩⟩⟩⟩⟩⟩⟩⟩⟩⟩⟩⟩⟩⟩⟩⟩⟩⟩⟩⟩⟩⟩⟩⟩⟩⟩⟩⟩⟩
def am_mks6 : List Nat := [183, 184, 185, 186, 187, 188, 189, 190, 191, 192, 193, 194, 195, 196, 197, 198, 199, 200, 201, 202, 203, 204, 205, 206, 207]
theorem am_mks6_ok : ∀ k ∈ am_mks6, Cond.code (am_name k) (am_bytes k) (am_mxl k) (am_ret k) ∈ lw_tbl := List.forall_mem_cons.mpr ⟨am_tb6 am_cw183, List.forall_mem_cons.mpr ⟨am_tb6 am_cw184, List.forall_mem_cons.mpr ⟨am_tb6 am_cw185, List.forall_mem_cons.mpr ⟨am_tb6 am_cw186, List.forall_mem_cons.mpr ⟨am_tb6 am_cw187, List.forall_mem_cons.mpr ⟨am_tb6 am_cw188, List.forall_mem_cons.mpr ⟨am_tb6 am_cw189, List.forall_mem_cons.mpr ⟨am_tb6 am_cw190, List.forall_mem_cons.mpr ⟨am_tb6 am_cw191, List.forall_mem_cons.mpr ⟨am_tb6 am_cw192, List.forall_mem_cons.mpr ⟨am_tb6 am_cw193, List.forall_mem_cons.mpr ⟨am_tb6 am_cw194, List.forall_mem_cons.mpr ⟨am_tb6 am_cw195, List.forall_mem_cons.mpr ⟨am_tb6 am_cw196, List.forall_mem_cons.mpr ⟨am_tb6 am_cw197, List.forall_mem_cons.mpr ⟨am_tb6 am_cw198, List.forall_mem_cons.mpr ⟨am_tb6 am_cw199, List.forall_mem_cons.mpr ⟨am_tb6 am_cw200, List.forall_mem_cons.mpr ⟨am_tb6 am_cw201, List.forall_mem_cons.mpr ⟨am_tb6 am_cw202, List.forall_mem_cons.mpr ⟨am_tb6 am_cw203, List.forall_mem_cons.mpr ⟨am_tb6 am_cw204, List.forall_mem_cons.mpr ⟨am_tb6 am_cw205, List.forall_mem_cons.mpr ⟨am_tb6 am_cw206, List.forall_mem_cons.mpr ⟨am_tb6 am_cw207, fun _ h => absurd h List.not_mem_nil⟩⟩⟩⟩⟩⟩⟩⟩⟩⟩⟩⟩⟩⟩⟩⟩⟩⟩⟩⟩⟩⟩⟩⟩⟩
theorem am_mks_eq : am_mks = am_mks0 ++ (am_mks1 ++ (am_mks2 ++ (am_mks3 ++ (am_mks4 ++ (am_mks5 ++ (am_mks6)))))) := by decide +kernel
theorem am_mks_code : ∀ k ∈ am_mks, Cond.code (am_name k) (am_bytes k) (am_mxl k) (am_ret k) ∈ lw_tbl := by
  intro k h
  rw [am_mks_eq] at h
  exact (List.mem_append.mp h).elim (am_mks0_ok k) (fun h => (List.mem_append.mp h).elim (am_mks1_ok k) (fun h => (List.mem_append.mp h).elim (am_mks2_ok k) (fun h => (List.mem_append.mp h).elim (am_mks3_ok k) (fun h => (List.mem_append.mp h).elim (am_mks4_ok k) (fun h => (List.mem_append.mp h).elim (am_mks5_ok k) (fun h => am_mks6_ok k h))))))
theorem am_code_good (y : MethodName) (bs : ByteArray) (n : Nat) (r : Option FieldType) : goodWord (.code y bs n r) = true := rfl
theorem am_mk {k : Nat} (h : k ∈ am_mks) : am_mok k := by
  have h1 := List.all_eq_true.mp am_mk1 k h
  simp only [Bool.and_eq_true] at h1
  obtain ⟨⟨⟨⟨⟨g1, g2⟩, g3⟩, g4⟩, g5⟩, g6⟩ := h1
  refine ⟨am_at_in g1, List.mem_filter.mpr ⟨am_mks_code k h, am_code_good _ _ _ _⟩, of_decide_eq_true g2, of_decide_eq_true g3, g4, of_decide_eq_true g5, fun hi => ?_⟩
  rw [hi] at g6
  simpa using g6
def am_mck (q : (Nat × Nat) × (Nat × Nat × Nat × Nat × Nat × Nat)) : Bool := match q with
  | ((o, j), (kd, k, np, p1, p2, p3)) => match kd with
    | 3 => am_at p1 (.methodLink (am_cn o) j Lib.objectInit)
    | 4 => match k with
      | 0 => am_at p1 (.methodLink (am_cn o) j Lib.Math.max.name) && am_at p2 (.static Lib.Math.max.name)
      | 1 => am_at p1 (.methodLink (am_cn o) j Lib.Math.min.name) && am_at p2 (.static Lib.Math.min.name)
      | 5 => am_at p1 (.methodLink (am_cn o) j Lib.MathLoose.abs_long.x) && am_at p2 (.static Lib.MathLoose.abs_long.x)
      | _ => false
    | 0 => decide (k ∈ am_mks) && decide ((parseMethodDescriptor (am_name k).desc).map (fun d => d.parameters.length) = some np) && (am_at p1 (.methodLink (am_cn o) j (am_name k)) || decide ((am_cn o, j, am_name k, "SectionTemplates") ∈ am_NM)) && am_at p2 (.static (am_name k))
    | 1 => decide (k ∈ am_mks) && decide ((parseMethodDescriptor (am_name k).desc).map (fun d => d.parameters.length) = some np) && (am_at p1 (.methodLink (am_cn o) j (am_name k)) || decide ((am_cn o, j, am_name k, "SectionTemplates") ∈ am_NM)) && am_at p2 (.instanceMethod (am_name k)) && (match vwCl[am_rcv k]? with
      | some (C, _, _) => am_at p3 (.selects C (am_name k) (am_name k))
      | none => false)
    | 2 => decide (k ∈ am_mks) && decide ((parseMethodDescriptor (am_name k).desc).map (fun d => d.parameters.length) = some np) && (am_at p1 (.methodLink (am_cn o) j (am_name k)) || decide ((am_cn o, j, am_name k, "SectionTemplates") ∈ am_NM)) && am_at p2 (.instanceMethod (am_name k)) && decide ((am_name k).name = "<init>") && decide (am_ret k = none)
    | _ => false

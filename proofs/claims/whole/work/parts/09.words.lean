theorem rx_ly_0 : u_ws RX0 TX0 6 = [215, 217, 219, 221, 223, 225].filterMap (fun j => lw_tbl[j]?) ∧ (u_ws RX0 TX0 6).all goodWord = true := by decide +kernel
theorem rx_ly_1 : u_ws RX1 TX1 9 = [265, 267, 269, 271, 273, 275, 277, 279, 281].filterMap (fun j => lw_tbl[j]?) ∧ (u_ws RX1 TX1 9).all goodWord = true := by decide +kernel
theorem rx_ly_2 : u_ws RX2 TX2 4 = [238, 240, 242, 244].filterMap (fun j => lw_tbl[j]?) ∧ (u_ws RX2 TX2 4).all goodWord = true := by decide +kernel
theorem rx_ly_3 : u_ws RX3 TX3 3 = [132, 134, 136].filterMap (fun j => lw_tbl[j]?) ∧ (u_ws RX3 TX3 3).all goodWord = true := by decide +kernel
theorem rx_ly_4 : u_ws RX4 TX4 3 = [120, 122, 124].filterMap (fun j => lw_tbl[j]?) ∧ (u_ws RX4 TX4 3).all goodWord = true := by decide +kernel
theorem rx_ly_5 : u_ws RX5 TX5 7 = [188, 190, 192, 194, 196, 198, 200].filterMap (fun j => lw_tbl[j]?) ∧ (u_ws RX5 TX5 7).all goodWord = true := by decide +kernel
theorem rx_ly_6 : u_ws RX6 TX6 8 = [156, 158, 160, 162, 164, 166, 168, 170].filterMap (fun j => lw_tbl[j]?) ∧ (u_ws RX6 TX6 8).all goodWord = true := by decide +kernel
theorem rx_ly_7 : u_ws RX7 TX7 11 = [295, 297, 299, 301, 303, 305, 307, 309, 311, 313, 315].filterMap (fun j => lw_tbl[j]?) ∧ (u_ws RX7 TX7 11).all goodWord = true := by decide +kernel
theorem rx_ly_8 : u_ws RX8 TX8 16 = [781, 783, 785, 787, 789, 791, 793, 795, 797, 799, 801, 803, 805, 807, 809, 811].filterMap (fun j => lw_tbl[j]?) ∧ (u_ws RX8 TX8 16).all goodWord = true := by decide +kernel
theorem rx_lays_of {C : String} {T : u_T} {N : Nat} {ps : List Nat} (h : u_ws C T N = ps.filterMap (fun j => lw_tbl[j]?) ∧ (u_ws C T N).all goodWord = true) : ∀ w ∈ u_ws C T N, w ∈ rx_g := by
  intro w hw
  refine List.mem_filter.mpr ⟨?_, List.all_eq_true.mp h.2 w hw⟩
  rw [h.1] at hw
  obtain ⟨j, -, hj⟩ := List.mem_filterMap.mp hw
  exact List.mem_of_getElem? hj
theorem rx_lays (a : Nat) (h : a < 9) : ∀ w ∈ u_ws (rx_Rn a) (rx_T a) (rx_N a), w ∈ rx_g := by
  rcases a with _ | _ | _ | _ | _ | _ | _ | _ | _ | a
  · exact rx_lays_of rx_ly_0
  · exact rx_lays_of rx_ly_1
  · exact rx_lays_of rx_ly_2
  · exact rx_lays_of rx_ly_3
  · exact rx_lays_of rx_ly_4
  · exact rx_lays_of rx_ly_5
  · exact rx_lays_of rx_ly_6
  · exact rx_lays_of rx_ly_7
  · exact rx_lays_of rx_ly_8
  · omega
set_option maxRecDepth 20000 in
theorem rx_cd_0 : lw_tbl[207]? = some (Cond.code (rx_y 0) (rx_cc 0) (rx_ml 0) (rx_rt 0)) := rfl
set_option maxRecDepth 20000 in
theorem rx_cd_1 : lw_tbl[459]? = some (Cond.code (rx_y 1) (rx_cc 1) (rx_ml 1) (rx_rt 1)) := rfl
set_option maxRecDepth 20000 in
theorem rx_cd_2 : lw_tbl[571]? = some (Cond.code (rx_y 2) (rx_cc 2) (rx_ml 2) (rx_rt 2)) := rfl
set_option maxRecDepth 20000 in
theorem rx_cd_3 : lw_tbl[575]? = some (Cond.code (rx_y 3) (rx_cc 3) (rx_ml 3) (rx_rt 3)) := rfl
set_option maxRecDepth 20000 in
theorem rx_cd_4 : lw_tbl[485]? = some (Cond.code (rx_y 4) (rx_cc 4) (rx_ml 4) (rx_rt 4)) := rfl
set_option maxRecDepth 20000 in
theorem rx_cd_5 : lw_tbl[502]? = some (Cond.code (rx_y 5) (rx_cc 5) (rx_ml 5) (rx_rt 5)) := rfl
set_option maxRecDepth 20000 in
theorem rx_cd_6 : lw_tbl[497]? = some (Cond.code (rx_y 6) (rx_cc 6) (rx_ml 6) (rx_rt 6)) := rfl
set_option maxRecDepth 20000 in
theorem rx_cd_7 : lw_tbl[463]? = some (Cond.code (rx_y 7) (rx_cc 7) (rx_ml 7) (rx_rt 7)) := rfl
set_option maxRecDepth 20000 in
theorem rx_cd_8 : lw_tbl[468]? = some (Cond.code (rx_y 8) (rx_cc 8) (rx_ml 8) (rx_rt 8)) := rfl
set_option maxRecDepth 20000 in
theorem rx_cd_9 : lw_tbl[472]? = some (Cond.code (rx_y 9) (rx_cc 9) (rx_ml 9) (rx_rt 9)) := rfl
set_option maxRecDepth 20000 in
theorem rx_cd_10 : lw_tbl[477]? = some (Cond.code (rx_y 10) (rx_cc 10) (rx_ml 10) (rx_rt 10)) := rfl
set_option maxRecDepth 20000 in
theorem rx_cd_11 : lw_tbl[481]? = some (Cond.code (rx_y 11) (rx_cc 11) (rx_ml 11) (rx_rt 11)) := rfl
set_option maxRecDepth 20000 in
theorem rx_cd_12 : lw_tbl[251]? = some (Cond.code (rx_y 12) (rx_cc 12) (rx_ml 12) (rx_rt 12)) := rfl
set_option maxRecDepth 20000 in
theorem rx_cd_13 : lw_tbl[532]? = some (Cond.code (rx_y 13) (rx_cc 13) (rx_ml 13) (rx_rt 13)) := rfl
set_option maxRecDepth 20000 in
theorem rx_cd_14 : lw_tbl[629]? = some (Cond.code (rx_y 14) (rx_cc 14) (rx_ml 14) (rx_rt 14)) := rfl
set_option maxRecDepth 20000 in
theorem rx_cd_15 : lw_tbl[633]? = some (Cond.code (rx_y 15) (rx_cc 15) (rx_ml 15) (rx_rt 15)) := rfl
set_option maxRecDepth 20000 in
theorem rx_cd_16 : lw_tbl[700]? = some (Cond.code (rx_y 16) (rx_cc 16) (rx_ml 16) (rx_rt 16)) := rfl
set_option maxRecDepth 20000 in
theorem rx_cd_17 : lw_tbl[646]? = some (Cond.code (rx_y 17) (rx_cc 17) (rx_ml 17) (rx_rt 17)) := rfl
set_option maxRecDepth 20000 in
theorem rx_cd_18 : lw_tbl[637]? = some (Cond.code (rx_y 18) (rx_cc 18) (rx_ml 18) (rx_rt 18)) := rfl
set_option maxRecDepth 20000 in
theorem rx_cd_19 : lw_tbl[641]? = some (Cond.code (rx_y 19) (rx_cc 19) (rx_ml 19) (rx_rt 19)) := rfl
set_option maxRecDepth 20000 in
theorem rx_cd_20 : lw_tbl[538]? = some (Cond.code (rx_y 20) (rx_cc 20) (rx_ml 20) (rx_rt 20)) := rfl
set_option maxRecDepth 20000 in
theorem rx_cd_21 : lw_tbl[542]? = some (Cond.code (rx_y 21) (rx_cc 21) (rx_ml 21) (rx_rt 21)) := rfl
set_option maxRecDepth 20000 in
theorem rx_cd_22 : lw_tbl[547]? = some (Cond.code (rx_y 22) (rx_cc 22) (rx_ml 22) (rx_rt 22)) := rfl
set_option maxRecDepth 20000 in
theorem rx_cd_23 : lw_tbl[551]? = some (Cond.code (rx_y 23) (rx_cc 23) (rx_ml 23) (rx_rt 23)) := rfl
set_option maxRecDepth 20000 in
theorem rx_cd_24 : lw_tbl[554]? = some (Cond.code (rx_y 24) (rx_cc 24) (rx_ml 24) (rx_rt 24)) := rfl
set_option maxRecDepth 20000 in
theorem rx_cd_25 : lw_tbl[558]? = some (Cond.code (rx_y 25) (rx_cc 25) (rx_ml 25) (rx_rt 25)) := rfl
set_option maxRecDepth 20000 in
theorem rx_cd_26 : lw_tbl[232]? = some (Cond.code (rx_y 26) (rx_cc 26) (rx_ml 26) (rx_rt 26)) := rfl
set_option maxRecDepth 20000 in
theorem rx_cd_27 : lw_tbl[428]? = some (Cond.code (rx_y 27) (rx_cc 27) (rx_ml 27) (rx_rt 27)) := rfl
set_option maxRecDepth 20000 in
theorem rx_cd_28 : lw_tbl[439]? = some (Cond.code (rx_y 28) (rx_cc 28) (rx_ml 28) (rx_rt 28)) := rfl
set_option maxRecDepth 20000 in
theorem rx_cd_29 : lw_tbl[449]? = some (Cond.code (rx_y 29) (rx_cc 29) (rx_ml 29) (rx_rt 29)) := rfl
set_option maxRecDepth 20000 in
theorem rx_cd_30 : lw_tbl[434]? = some (Cond.code (rx_y 30) (rx_cc 30) (rx_ml 30) (rx_rt 30)) := rfl
set_option maxRecDepth 20000 in
theorem rx_cd_31 : lw_tbl[444]? = some (Cond.code (rx_y 31) (rx_cc 31) (rx_ml 31) (rx_rt 31)) := rfl
set_option maxRecDepth 20000 in
theorem rx_cd_32 : lw_tbl[101]? = some (Cond.code (rx_y 32) (rx_cc 32) (rx_ml 32) (rx_rt 32)) := rfl
set_option maxRecDepth 20000 in
theorem rx_cd_33 : lw_tbl[336]? = some (Cond.code (rx_y 33) (rx_cc 33) (rx_ml 33) (rx_rt 33)) := rfl
set_option maxRecDepth 20000 in
theorem rx_cd_34 : lw_tbl[735]? = some (Cond.code (rx_y 34) (rx_cc 34) (rx_ml 34) (rx_rt 34)) := rfl
set_option maxRecDepth 20000 in
theorem rx_cd_35 : lw_tbl[107]? = some (Cond.code (rx_y 35) (rx_cc 35) (rx_ml 35) (rx_rt 35)) := rfl
set_option maxRecDepth 20000 in
theorem rx_cd_36 : lw_tbl[350]? = some (Cond.code (rx_y 36) (rx_cc 36) (rx_ml 36) (rx_rt 36)) := rfl
set_option maxRecDepth 20000 in
theorem rx_cd_37 : lw_tbl[340]? = some (Cond.code (rx_y 37) (rx_cc 37) (rx_ml 37) (rx_rt 37)) := rfl
set_option maxRecDepth 20000 in
theorem rx_cd_38 : lw_tbl[376]? = some (Cond.code (rx_y 38) (rx_cc 38) (rx_ml 38) (rx_rt 38)) := rfl
set_option maxRecDepth 20000 in
theorem rx_cd_39 : lw_tbl[372]? = some (Cond.code (rx_y 39) (rx_cc 39) (rx_ml 39) (rx_rt 39)) := rfl
set_option maxRecDepth 20000 in
theorem rx_cd_40 : lw_tbl[383]? = some (Cond.code (rx_y 40) (rx_cc 40) (rx_ml 40) (rx_rt 40)) := rfl
set_option maxRecDepth 20000 in
theorem rx_cd_41 : lw_tbl[401]? = some (Cond.code (rx_y 41) (rx_cc 41) (rx_ml 41) (rx_rt 41)) := rfl
set_option maxRecDepth 20000 in
theorem rx_cd_42 : lw_tbl[413]? = some (Cond.code (rx_y 42) (rx_cc 42) (rx_ml 42) (rx_rt 42)) := rfl
set_option maxRecDepth 20000 in
theorem rx_cd_43 : lw_tbl[516]? = some (Cond.code (rx_y 43) (rx_cc 43) (rx_ml 43) (rx_rt 43)) := rfl
set_option maxRecDepth 20000 in
theorem rx_cd_44 : lw_tbl[520]? = some (Cond.code (rx_y 44) (rx_cc 44) (rx_ml 44) (rx_rt 44)) := rfl
set_option maxRecDepth 20000 in
theorem rx_cd_45 : lw_tbl[524]? = some (Cond.code (rx_y 45) (rx_cc 45) (rx_ml 45) (rx_rt 45)) := rfl
set_option maxRecDepth 20000 in
theorem rx_cd_46 : lw_tbl[489]? = some (Cond.code (rx_y 46) (rx_cc 46) (rx_ml 46) (rx_rt 46)) := rfl
set_option maxRecDepth 20000 in
theorem rx_cd_47 : lw_tbl[493]? = some (Cond.code (rx_y 47) (rx_cc 47) (rx_ml 47) (rx_rt 47)) := rfl
set_option maxRecDepth 20000 in
theorem rx_cd_48 : lw_tbl[387]? = some (Cond.code (rx_y 48) (rx_cc 48) (rx_ml 48) (rx_rt 48)) := rfl
set_option maxRecDepth 20000 in
theorem rx_cd_49 : lw_tbl[178]? = some (Cond.code (rx_y 49) (rx_cc 49) (rx_ml 49) (rx_rt 49)) := rfl
set_option maxRecDepth 20000 in
theorem rx_cd_50 : lw_tbl[657]? = some (Cond.code (rx_y 50) (rx_cc 50) (rx_ml 50) (rx_rt 50)) := rfl
set_option maxRecDepth 20000 in
theorem rx_cd_51 : lw_tbl[709]? = some (Cond.code (rx_y 51) (rx_cc 51) (rx_ml 51) (rx_rt 51)) := rfl
set_option maxRecDepth 20000 in
theorem rx_cd_52 : lw_tbl[719]? = some (Cond.code (rx_y 52) (rx_cc 52) (rx_ml 52) (rx_rt 52)) := rfl
set_option maxRecDepth 20000 in
theorem rx_cd_53 : lw_tbl[723]? = some (Cond.code (rx_y 53) (rx_cc 53) (rx_ml 53) (rx_rt 53)) := rfl
set_option maxRecDepth 20000 in
theorem rx_cd_54 : lw_tbl[661]? = some (Cond.code (rx_y 54) (rx_cc 54) (rx_ml 54) (rx_rt 54)) := rfl
set_option maxRecDepth 20000 in
theorem rx_cd_55 : lw_tbl[667]? = some (Cond.code (rx_y 55) (rx_cc 55) (rx_ml 55) (rx_rt 55)) := rfl
set_option maxRecDepth 20000 in
theorem rx_cd_56 : lw_tbl[672]? = some (Cond.code (rx_y 56) (rx_cc 56) (rx_ml 56) (rx_rt 56)) := rfl
set_option maxRecDepth 20000 in
theorem rx_cd_57 : lw_tbl[705]? = some (Cond.code (rx_y 57) (rx_cc 57) (rx_ml 57) (rx_rt 57)) := rfl
set_option maxRecDepth 20000 in
theorem rx_cd_58 : lw_tbl[696]? = some (Cond.code (rx_y 58) (rx_cc 58) (rx_ml 58) (rx_rt 58)) := rfl
set_option maxRecDepth 20000 in
theorem rx_cd_59 : lw_tbl[143]? = some (Cond.code (rx_y 59) (rx_cc 59) (rx_ml 59) (rx_rt 59)) := rfl
set_option maxRecDepth 20000 in
theorem rx_cd_60 : lw_tbl[583]? = some (Cond.code (rx_y 60) (rx_cc 60) (rx_ml 60) (rx_rt 60)) := rfl
set_option maxRecDepth 20000 in
theorem rx_cd_61 : lw_tbl[625]? = some (Cond.code (rx_y 61) (rx_cc 61) (rx_ml 61) (rx_rt 61)) := rfl
set_option maxRecDepth 20000 in
theorem rx_cd_62 : lw_tbl[595]? = some (Cond.code (rx_y 62) (rx_cc 62) (rx_ml 62) (rx_rt 62)) := rfl
set_option maxRecDepth 20000 in
theorem rx_cd_63 : lw_tbl[599]? = some (Cond.code (rx_y 63) (rx_cc 63) (rx_ml 63) (rx_rt 63)) := rfl
set_option maxRecDepth 20000 in
theorem rx_cd_64 : lw_tbl[603]? = some (Cond.code (rx_y 64) (rx_cc 64) (rx_ml 64) (rx_rt 64)) := rfl
set_option maxRecDepth 20000 in
theorem rx_cd_65 : lw_tbl[606]? = some (Cond.code (rx_y 65) (rx_cc 65) (rx_ml 65) (rx_rt 65)) := rfl
set_option maxRecDepth 20000 in
theorem rx_cd_66 : lw_tbl[611]? = some (Cond.code (rx_y 66) (rx_cc 66) (rx_ml 66) (rx_rt 66)) := rfl
set_option maxRecDepth 20000 in
theorem rx_cd_67 : lw_tbl[615]? = some (Cond.code (rx_y 67) (rx_cc 67) (rx_ml 67) (rx_rt 67)) := rfl
set_option maxRecDepth 20000 in
theorem rx_cd_68 : lw_tbl[89]? = some (Cond.code (rx_y 68) (rx_cc 68) (rx_ml 68) (rx_rt 68)) := rfl
set_option maxRecDepth 20000 in
theorem rx_cd_69 : lw_tbl[321]? = some (Cond.code (rx_y 69) (rx_cc 69) (rx_ml 69) (rx_rt 69)) := rfl
set_option maxRecDepth 20000 in
theorem rx_cd_70 : lw_tbl[357]? = some (Cond.code (rx_y 70) (rx_cc 70) (rx_ml 70) (rx_rt 70)) := rfl
set_option maxRecDepth 20000 in
theorem rx_cd_71 : lw_tbl[397]? = some (Cond.code (rx_y 71) (rx_cc 71) (rx_ml 71) (rx_rt 71)) := rfl
set_option maxRecDepth 20000 in
theorem rx_cd_72 : lw_tbl[405]? = some (Cond.code (rx_y 72) (rx_cc 72) (rx_ml 72) (rx_rt 72)) := rfl
set_option maxRecDepth 20000 in
theorem rx_cd_73 : lw_tbl[417]? = some (Cond.code (rx_y 73) (rx_cc 73) (rx_ml 73) (rx_rt 73)) := rfl
set_option maxRecDepth 20000 in
theorem rx_cd_74 : lw_tbl[424]? = some (Cond.code (rx_y 74) (rx_cc 74) (rx_ml 74) (rx_rt 74)) := rfl
set_option maxRecDepth 20000 in
theorem rx_cd_75 : lw_tbl[455]? = some (Cond.code (rx_y 75) (rx_cc 75) (rx_ml 75) (rx_rt 75)) := rfl
set_option maxRecDepth 20000 in
theorem rx_cd_76 : lw_tbl[508]? = some (Cond.code (rx_y 76) (rx_cc 76) (rx_ml 76) (rx_rt 76)) := rfl
set_option maxRecDepth 20000 in
theorem rx_cd_77 : lw_tbl[562]? = some (Cond.code (rx_y 77) (rx_cc 77) (rx_ml 77) (rx_rt 77)) := rfl
set_option maxRecDepth 20000 in
theorem rx_cd_78 : lw_tbl[567]? = some (Cond.code (rx_y 78) (rx_cc 78) (rx_ml 78) (rx_rt 78)) := rfl
set_option maxRecDepth 20000 in
theorem rx_cd_79 : lw_tbl[579]? = some (Cond.code (rx_y 79) (rx_cc 79) (rx_ml 79) (rx_rt 79)) := rfl
set_option maxRecDepth 20000 in
theorem rx_cd_80 : lw_tbl[587]? = some (Cond.code (rx_y 80) (rx_cc 80) (rx_ml 80) (rx_rt 80)) := rfl
set_option maxRecDepth 20000 in
theorem rx_cd_81 : lw_tbl[591]? = some (Cond.code (rx_y 81) (rx_cc 81) (rx_ml 81) (rx_rt 81)) := rfl
set_option maxRecDepth 20000 in
theorem rx_cd_82 : lw_tbl[621]? = some (Cond.code (rx_y 82) (rx_cc 82) (rx_ml 82) (rx_rt 82)) := rfl
set_option maxRecDepth 20000 in
theorem rx_cd_83 : lw_tbl[650]? = some (Cond.code (rx_y 83) (rx_cc 83) (rx_ml 83) (rx_rt 83)) := rfl
set_option maxRecDepth 20000 in
theorem rx_cd_84 : lw_tbl[715]? = some (Cond.code (rx_y 84) (rx_cc 84) (rx_ml 84) (rx_rt 84)) := rfl
set_option maxRecDepth 20000 in
theorem rx_cd_85 : lw_tbl[727]? = some (Cond.code (rx_y 85) (rx_cc 85) (rx_ml 85) (rx_rt 85)) := rfl
set_option maxRecDepth 20000 in
theorem rx_cd_86 : lw_tbl[731]? = some (Cond.code (rx_y 86) (rx_cc 86) (rx_ml 86) (rx_rt 86)) := rfl
set_option maxRecDepth 20000 in
theorem rx_cd_87 : lw_tbl[739]? = some (Cond.code (rx_y 87) (rx_cc 87) (rx_ml 87) (rx_rt 87)) := rfl
set_option maxRecDepth 20000 in
theorem rx_cd_88 : lw_tbl[747]? = some (Cond.code (rx_y 88) (rx_cc 88) (rx_ml 88) (rx_rt 88)) := rfl
set_option maxRecDepth 20000 in
theorem rx_cd_89 : lw_tbl[753]? = some (Cond.code (rx_y 89) (rx_cc 89) (rx_ml 89) (rx_rt 89)) := rfl
set_option maxRecDepth 20000 in
theorem rx_cd_90 : lw_tbl[757]? = some (Cond.code (rx_y 90) (rx_cc 90) (rx_ml 90) (rx_rt 90)) := rfl
set_option maxRecDepth 20000 in
theorem rx_cd_91 : lw_tbl[743]? = some (Cond.code (rx_y 91) (rx_cc 91) (rx_ml 91) (rx_rt 91)) := rfl
set_option maxRecDepth 20000 in
theorem rx_cd_92 : lw_tbl[512]? = some (Cond.code (rx_y 92) (rx_cc 92) (rx_ml 92) (rx_rt 92)) := rfl
set_option maxRecDepth 20000 in
theorem rx_cd_93 : lw_tbl[332]? = some (Cond.code (rx_y 93) (rx_cc 93) (rx_ml 93) (rx_rt 93)) := rfl
set_option maxRecDepth 20000 in
theorem rx_cd_94 : lw_tbl[528]? = some (Cond.code (rx_y 94) (rx_cc 94) (rx_ml 94) (rx_rt 94)) := rfl
set_option maxRecDepth 20000 in
theorem rx_cd_95 : lw_tbl[328]? = some (Cond.code (rx_y 95) (rx_cc 95) (rx_ml 95) (rx_rt 95)) := rfl
set_option maxRecDepth 20000 in
theorem rx_cd_96 : lw_tbl[365]? = some (Cond.code (rx_y 96) (rx_cc 96) (rx_ml 96) (rx_rt 96)) := rfl
set_option maxRecDepth 20000 in
theorem rx_cd_97 : lw_tbl[361]? = some (Cond.code (rx_y 97) (rx_cc 97) (rx_ml 97) (rx_rt 97)) := rfl
set_option maxRecDepth 20000 in
theorem rx_cd_98 : lw_tbl[653]? = some (Cond.code (rx_y 98) (rx_cc 98) (rx_ml 98) (rx_rt 98)) := rfl
set_option maxRecDepth 20000 in
theorem rx_cd_99 : lw_tbl[324]? = some (Cond.code (rx_y 99) (rx_cc 99) (rx_ml 99) (rx_rt 99)) := rfl
set_option maxRecDepth 20000 in
theorem rx_cd_100 : lw_tbl[420]? = some (Cond.code (rx_y 100) (rx_cc 100) (rx_ml 100) (rx_rt 100)) := rfl
set_option maxRecDepth 20000 in
theorem rx_cd_101 : lw_tbl[368]? = some (Cond.code (rx_y 101) (rx_cc 101) (rx_ml 101) (rx_rt 101)) := rfl
set_option maxRecDepth 20000 in
theorem rx_cd_102 : lw_tbl[408]? = some (Cond.code (rx_y 102) (rx_cc 102) (rx_ml 102) (rx_rt 102)) := rfl
set_option maxRecDepth 20000 in
theorem rx_cd_103 : lw_tbl[379]? = some (Cond.code (rx_y 103) (rx_cc 103) (rx_ml 103) (rx_rt 103)) := rfl
set_option maxRecDepth 20000 in
theorem rx_cd_104 : lw_tbl[762]? = some (Cond.code (rx_y 104) (rx_cc 104) (rx_ml 104) (rx_rt 104)) := rfl
set_option maxRecDepth 20000 in
theorem rx_cd_105 : lw_tbl[831]? = some (Cond.code (rx_y 105) (rx_cc 105) (rx_ml 105) (rx_rt 105)) := rfl
set_option maxRecDepth 20000 in
theorem rx_cd_106 : lw_tbl[861]? = some (Cond.code (rx_y 106) (rx_cc 106) (rx_ml 106) (rx_rt 106)) := rfl
set_option maxRecDepth 20000 in
theorem rx_cd_107 : lw_tbl[868]? = some (Cond.code (rx_y 107) (rx_cc 107) (rx_ml 107) (rx_rt 107)) := rfl
set_option maxRecDepth 20000 in
theorem rx_cd_108 : lw_tbl[821]? = some (Cond.code (rx_y 108) (rx_cc 108) (rx_ml 108) (rx_rt 108)) := rfl
set_option maxRecDepth 20000 in
theorem rx_cd_109 : lw_tbl[828]? = some (Cond.code (rx_y 109) (rx_cc 109) (rx_ml 109) (rx_rt 109)) := rfl
set_option maxRecDepth 20000 in
theorem rx_cd_110 : lw_tbl[839]? = some (Cond.code (rx_y 110) (rx_cc 110) (rx_ml 110) (rx_rt 110)) := rfl
set_option maxRecDepth 20000 in
theorem rx_cd_111 : lw_tbl[851]? = some (Cond.code (rx_y 111) (rx_cc 111) (rx_ml 111) (rx_rt 111)) := rfl
set_option maxRecDepth 20000 in
theorem rx_cd_112 : lw_tbl[858]? = some (Cond.code (rx_y 112) (rx_cc 112) (rx_ml 112) (rx_rt 112)) := rfl
set_option maxRecDepth 20000 in
theorem rx_cd_113 : lw_tbl[855]? = some (Cond.code (rx_y 113) (rx_cc 113) (rx_ml 113) (rx_rt 113)) := rfl
set_option maxRecDepth 20000 in
theorem rx_cd_114 : lw_tbl[835]? = some (Cond.code (rx_y 114) (rx_cc 114) (rx_ml 114) (rx_rt 114)) := rfl
set_option maxRecDepth 20000 in
theorem rx_cd_115 : lw_tbl[817]? = some (Cond.code (rx_y 115) (rx_cc 115) (rx_ml 115) (rx_rt 115)) := rfl
set_option maxRecDepth 20000 in
theorem rx_cd_116 : lw_tbl[865]? = some (Cond.code (rx_y 116) (rx_cc 116) (rx_ml 116) (rx_rt 116)) := rfl
set_option maxRecDepth 20000 in
theorem rx_cd_117 : lw_tbl[825]? = some (Cond.code (rx_y 117) (rx_cc 117) (rx_ml 117) (rx_rt 117)) := rfl
set_option maxRecDepth 20000 in
theorem rx_cd_118 : lw_tbl[847]? = some (Cond.code (rx_y 118) (rx_cc 118) (rx_ml 118) (rx_rt 118)) := rfl
set_option maxRecDepth 20000 in
theorem rx_cd_119 : lw_tbl[843]? = some (Cond.code (rx_y 119) (rx_cc 119) (rx_ml 119) (rx_rt 119)) := rfl
set_option maxRecDepth 20000 in
theorem rx_cd_120 : lw_tbl[872]? = some (Cond.code (rx_y 120) (rx_cc 120) (rx_ml 120) (rx_rt 120)) := rfl
set_option maxRecDepth 20000 in
theorem rx_cd_121 : lw_tbl[880]? = some (Cond.code (rx_y 121) (rx_cc 121) (rx_ml 121) (rx_rt 121)) := rfl
set_option maxRecDepth 20000 in
theorem rx_cd_122 : lw_tbl[876]? = some (Cond.code (rx_y 122) (rx_cc 122) (rx_ml 122) (rx_rt 122)) := rfl
set_option maxRecDepth 20000 in
theorem rx_cd_123 : lw_tbl[884]? = some (Cond.code (rx_y 123) (rx_cc 123) (rx_ml 123) (rx_rt 123)) := rfl
set_option maxRecDepth 20000 in
theorem rx_cd_124 : lw_tbl[896]? = some (Cond.code (rx_y 124) (rx_cc 124) (rx_ml 124) (rx_rt 124)) := rfl
set_option maxRecDepth 20000 in
theorem rx_cd_125 : lw_tbl[900]? = some (Cond.code (rx_y 125) (rx_cc 125) (rx_ml 125) (rx_rt 125)) := rfl
set_option maxRecDepth 20000 in
theorem rx_cd_126 : lw_tbl[892]? = some (Cond.code (rx_y 126) (rx_cc 126) (rx_ml 126) (rx_rt 126)) := rfl
set_option maxRecDepth 20000 in
theorem rx_cd_127 : lw_tbl[904]? = some (Cond.code (rx_y 127) (rx_cc 127) (rx_ml 127) (rx_rt 127)) := rfl
set_option maxRecDepth 20000 in
theorem rx_cd_128 : lw_tbl[888]? = some (Cond.code (rx_y 128) (rx_cc 128) (rx_ml 128) (rx_rt 128)) := rfl
set_option maxRecDepth 20000 in
theorem rx_cd_129 : lw_tbl[920]? = some (Cond.code (rx_y 129) (rx_cc 129) (rx_ml 129) (rx_rt 129)) := rfl
set_option maxRecDepth 20000 in
theorem rx_cd_130 : lw_tbl[916]? = some (Cond.code (rx_y 130) (rx_cc 130) (rx_ml 130) (rx_rt 130)) := rfl
set_option maxRecDepth 20000 in
theorem rx_cd_131 : lw_tbl[912]? = some (Cond.code (rx_y 131) (rx_cc 131) (rx_ml 131) (rx_rt 131)) := rfl
set_option maxRecDepth 20000 in
theorem rx_cd_132 : lw_tbl[924]? = some (Cond.code (rx_y 132) (rx_cc 132) (rx_ml 132) (rx_rt 132)) := rfl
set_option maxRecDepth 20000 in
theorem rx_cd_133 : lw_tbl[927]? = some (Cond.code (rx_y 133) (rx_cc 133) (rx_ml 133) (rx_rt 133)) := rfl
set_option maxRecDepth 20000 in
theorem rx_cd_134 : lw_tbl[908]? = some (Cond.code (rx_y 134) (rx_cc 134) (rx_ml 134) (rx_rt 134)) := rfl
set_option maxRecDepth 20000 in
theorem rx_cd_135 : lw_tbl[931]? = some (Cond.code (rx_y 135) (rx_cc 135) (rx_ml 135) (rx_rt 135)) := rfl
set_option maxRecDepth 20000 in
theorem rx_cd_136 : lw_tbl[935]? = some (Cond.code (rx_y 136) (rx_cc 136) (rx_ml 136) (rx_rt 136)) := rfl
set_option maxRecDepth 20000 in
theorem rx_cd_137 : lw_tbl[999]? = some (Cond.code (rx_y 137) (rx_cc 137) (rx_ml 137) (rx_rt 137)) := rfl
set_option maxRecDepth 20000 in
theorem rx_cd_138 : lw_tbl[1003]? = some (Cond.code (rx_y 138) (rx_cc 138) (rx_ml 138) (rx_rt 138)) := rfl
set_option maxRecDepth 20000 in
theorem rx_cd_139 : lw_tbl[947]? = some (Cond.code (rx_y 139) (rx_cc 139) (rx_ml 139) (rx_rt 139)) := rfl
set_option maxRecDepth 20000 in
theorem rx_cd_140 : lw_tbl[951]? = some (Cond.code (rx_y 140) (rx_cc 140) (rx_ml 140) (rx_rt 140)) := rfl
set_option maxRecDepth 20000 in
theorem rx_cd_141 : lw_tbl[955]? = some (Cond.code (rx_y 141) (rx_cc 141) (rx_ml 141) (rx_rt 141)) := rfl
set_option maxRecDepth 20000 in
theorem rx_cd_142 : lw_tbl[943]? = some (Cond.code (rx_y 142) (rx_cc 142) (rx_ml 142) (rx_rt 142)) := rfl
set_option maxRecDepth 20000 in
theorem rx_cd_143 : lw_tbl[939]? = some (Cond.code (rx_y 143) (rx_cc 143) (rx_ml 143) (rx_rt 143)) := rfl
set_option maxRecDepth 20000 in
theorem rx_cd_144 : lw_tbl[959]? = some (Cond.code (rx_y 144) (rx_cc 144) (rx_ml 144) (rx_rt 144)) := rfl
set_option maxRecDepth 20000 in
theorem rx_cd_145 : lw_tbl[963]? = some (Cond.code (rx_y 145) (rx_cc 145) (rx_ml 145) (rx_rt 145)) := rfl
set_option maxRecDepth 20000 in
theorem rx_cd_146 : lw_tbl[967]? = some (Cond.code (rx_y 146) (rx_cc 146) (rx_ml 146) (rx_rt 146)) := rfl
set_option maxRecDepth 20000 in
theorem rx_cd_147 : lw_tbl[979]? = some (Cond.code (rx_y 147) (rx_cc 147) (rx_ml 147) (rx_rt 147)) := rfl
set_option maxRecDepth 20000 in
theorem rx_cd_148 : lw_tbl[983]? = some (Cond.code (rx_y 148) (rx_cc 148) (rx_ml 148) (rx_rt 148)) := rfl
set_option maxRecDepth 20000 in
theorem rx_cd_149 : lw_tbl[975]? = some (Cond.code (rx_y 149) (rx_cc 149) (rx_ml 149) (rx_rt 149)) := rfl
set_option maxRecDepth 20000 in
theorem rx_cd_150 : lw_tbl[987]? = some (Cond.code (rx_y 150) (rx_cc 150) (rx_ml 150) (rx_rt 150)) := rfl
set_option maxRecDepth 20000 in
theorem rx_cd_151 : lw_tbl[971]? = some (Cond.code (rx_y 151) (rx_cc 151) (rx_ml 151) (rx_rt 151)) := rfl
set_option maxRecDepth 20000 in
theorem rx_cd_152 : lw_tbl[995]? = some (Cond.code (rx_y 152) (rx_cc 152) (rx_ml 152) (rx_rt 152)) := rfl
set_option maxRecDepth 20000 in
theorem rx_cd_153 : lw_tbl[1011]? = some (Cond.code (rx_y 153) (rx_cc 153) (rx_ml 153) (rx_rt 153)) := rfl
set_option maxRecDepth 20000 in
theorem rx_cd_154 : lw_tbl[1007]? = some (Cond.code (rx_y 154) (rx_cc 154) (rx_ml 154) (rx_rt 154)) := rfl
set_option maxRecDepth 20000 in
theorem rx_cd_155 : lw_tbl[991]? = some (Cond.code (rx_y 155) (rx_cc 155) (rx_ml 155) (rx_rt 155)) := rfl
set_option maxRecDepth 20000 in
theorem rx_cd_156 : lw_tbl[1030]? = some (Cond.code (rx_y 156) (rx_cc 156) (rx_ml 156) (rx_rt 156)) := rfl
set_option maxRecDepth 20000 in
theorem rx_cd_157 : lw_tbl[1026]? = some (Cond.code (rx_y 157) (rx_cc 157) (rx_ml 157) (rx_rt 157)) := rfl
set_option maxRecDepth 20000 in
theorem rx_cd_158 : lw_tbl[1022]? = some (Cond.code (rx_y 158) (rx_cc 158) (rx_ml 158) (rx_rt 158)) := rfl
set_option maxRecDepth 20000 in
theorem rx_cd_159 : lw_tbl[1018]? = some (Cond.code (rx_y 159) (rx_cc 159) (rx_ml 159) (rx_rt 159)) := rfl
set_option maxRecDepth 20000 in
theorem rx_cd_160 : lw_tbl[1015]? = some (Cond.code (rx_y 160) (rx_cc 160) (rx_ml 160) (rx_rt 160)) := rfl
set_option maxRecDepth 20000 in
theorem rx_cd_161 : lw_tbl[1034]? = some (Cond.code (rx_y 161) (rx_cc 161) (rx_ml 161) (rx_rt 161)) := rfl
set_option maxRecDepth 20000 in
theorem rx_cd_162 : lw_tbl[1038]? = some (Cond.code (rx_y 162) (rx_cc 162) (rx_ml 162) (rx_rt 162)) := rfl
set_option maxRecDepth 20000 in
theorem rx_cd_163 : lw_tbl[1046]? = some (Cond.code (rx_y 163) (rx_cc 163) (rx_ml 163) (rx_rt 163)) := rfl
set_option maxRecDepth 20000 in
theorem rx_cd_164 : lw_tbl[1042]? = some (Cond.code (rx_y 164) (rx_cc 164) (rx_ml 164) (rx_rt 164)) := rfl
set_option maxRecDepth 20000 in
theorem rx_cd_165 : lw_tbl[1055]? = some (Cond.code (rx_y 165) (rx_cc 165) (rx_ml 165) (rx_rt 165)) := rfl
set_option maxRecDepth 20000 in
theorem rx_cd_166 : lw_tbl[1060]? = some (Cond.code (rx_y 166) (rx_cc 166) (rx_ml 166) (rx_rt 166)) := rfl
set_option maxRecDepth 20000 in
theorem rx_cd_167 : lw_tbl[1050]? = some (Cond.code (rx_y 167) (rx_cc 167) (rx_ml 167) (rx_rt 167)) := rfl
set_option maxRecDepth 20000 in
theorem rx_cd_168 : lw_tbl[390]? = some (Cond.code (rx_y 168) (rx_cc 168) (rx_ml 168) (rx_rt 168)) := rfl
set_option maxRecDepth 20000 in
theorem rx_cd_169 : lw_tbl[353]? = some (Cond.code (rx_y 169) (rx_cc 169) (rx_ml 169) (rx_rt 169)) := rfl
set_option maxRecDepth 20000 in
theorem rx_cd_170 : lw_tbl[688]? = some (Cond.code (rx_y 170) (rx_cc 170) (rx_ml 170) (rx_rt 170)) := rfl
set_option maxRecDepth 20000 in
theorem rx_cd_171 : lw_tbl[676]? = some (Cond.code (rx_y 171) (rx_cc 171) (rx_ml 171) (rx_rt 171)) := rfl
theorem rx_cd (a : Nat) (h : a < 172) : Cond.code (rx_y a) (rx_cc a) (rx_ml a) (rx_rt a) ∈ lw_tbl := by
  match a, h with
  | 0, _ => exact List.mem_of_getElem? rx_cd_0
  | 1, _ => exact List.mem_of_getElem? rx_cd_1
  | 2, _ => exact List.mem_of_getElem? rx_cd_2
  | 3, _ => exact List.mem_of_getElem? rx_cd_3
  | 4, _ => exact List.mem_of_getElem? rx_cd_4
  | 5, _ => exact List.mem_of_getElem? rx_cd_5
  | 6, _ => exact List.mem_of_getElem? rx_cd_6
  | 7, _ => exact List.mem_of_getElem? rx_cd_7
  | 8, _ => exact List.mem_of_getElem? rx_cd_8
  | 9, _ => exact List.mem_of_getElem? rx_cd_9
  | 10, _ => exact List.mem_of_getElem? rx_cd_10
  | 11, _ => exact List.mem_of_getElem? rx_cd_11
  | 12, _ => exact List.mem_of_getElem? rx_cd_12
  | 13, _ => exact List.mem_of_getElem? rx_cd_13
  | 14, _ => exact List.mem_of_getElem? rx_cd_14
  | 15, _ => exact List.mem_of_getElem? rx_cd_15
  | 16, _ => exact List.mem_of_getElem? rx_cd_16
  | 17, _ => exact List.mem_of_getElem? rx_cd_17
  | 18, _ => exact List.mem_of_getElem? rx_cd_18
  | 19, _ => exact List.mem_of_getElem? rx_cd_19
  | 20, _ => exact List.mem_of_getElem? rx_cd_20
  | 21, _ => exact List.mem_of_getElem? rx_cd_21
  | 22, _ => exact List.mem_of_getElem? rx_cd_22
  | 23, _ => exact List.mem_of_getElem? rx_cd_23
  | 24, _ => exact List.mem_of_getElem? rx_cd_24
  | 25, _ => exact List.mem_of_getElem? rx_cd_25
  | 26, _ => exact List.mem_of_getElem? rx_cd_26
  | 27, _ => exact List.mem_of_getElem? rx_cd_27
  | 28, _ => exact List.mem_of_getElem? rx_cd_28
  | 29, _ => exact List.mem_of_getElem? rx_cd_29
  | 30, _ => exact List.mem_of_getElem? rx_cd_30
  | 31, _ => exact List.mem_of_getElem? rx_cd_31
  | 32, _ => exact List.mem_of_getElem? rx_cd_32
  | 33, _ => exact List.mem_of_getElem? rx_cd_33
  | 34, _ => exact List.mem_of_getElem? rx_cd_34
  | 35, _ => exact List.mem_of_getElem? rx_cd_35
  | 36, _ => exact List.mem_of_getElem? rx_cd_36
  | 37, _ => exact List.mem_of_getElem? rx_cd_37
  | 38, _ => exact List.mem_of_getElem? rx_cd_38
  | 39, _ => exact List.mem_of_getElem? rx_cd_39
  | 40, _ => exact List.mem_of_getElem? rx_cd_40
  | 41, _ => exact List.mem_of_getElem? rx_cd_41
  | 42, _ => exact List.mem_of_getElem? rx_cd_42
  | 43, _ => exact List.mem_of_getElem? rx_cd_43
  | 44, _ => exact List.mem_of_getElem? rx_cd_44
  | 45, _ => exact List.mem_of_getElem? rx_cd_45
  | 46, _ => exact List.mem_of_getElem? rx_cd_46
  | 47, _ => exact List.mem_of_getElem? rx_cd_47
  | 48, _ => exact List.mem_of_getElem? rx_cd_48
  | 49, _ => exact List.mem_of_getElem? rx_cd_49
  | 50, _ => exact List.mem_of_getElem? rx_cd_50
  | 51, _ => exact List.mem_of_getElem? rx_cd_51
  | 52, _ => exact List.mem_of_getElem? rx_cd_52
  | 53, _ => exact List.mem_of_getElem? rx_cd_53
  | 54, _ => exact List.mem_of_getElem? rx_cd_54
  | 55, _ => exact List.mem_of_getElem? rx_cd_55
  | 56, _ => exact List.mem_of_getElem? rx_cd_56
  | 57, _ => exact List.mem_of_getElem? rx_cd_57
  | 58, _ => exact List.mem_of_getElem? rx_cd_58
  | 59, _ => exact List.mem_of_getElem? rx_cd_59
  | 60, _ => exact List.mem_of_getElem? rx_cd_60
  | 61, _ => exact List.mem_of_getElem? rx_cd_61
  | 62, _ => exact List.mem_of_getElem? rx_cd_62
  | 63, _ => exact List.mem_of_getElem? rx_cd_63
  | 64, _ => exact List.mem_of_getElem? rx_cd_64
  | 65, _ => exact List.mem_of_getElem? rx_cd_65
  | 66, _ => exact List.mem_of_getElem? rx_cd_66
  | 67, _ => exact List.mem_of_getElem? rx_cd_67
  | 68, _ => exact List.mem_of_getElem? rx_cd_68
  | 69, _ => exact List.mem_of_getElem? rx_cd_69
  | 70, _ => exact List.mem_of_getElem? rx_cd_70
  | 71, _ => exact List.mem_of_getElem? rx_cd_71
  | 72, _ => exact List.mem_of_getElem? rx_cd_72
  | 73, _ => exact List.mem_of_getElem? rx_cd_73
  | 74, _ => exact List.mem_of_getElem? rx_cd_74
  | 75, _ => exact List.mem_of_getElem? rx_cd_75
  | 76, _ => exact List.mem_of_getElem? rx_cd_76
  | 77, _ => exact List.mem_of_getElem? rx_cd_77
  | 78, _ => exact List.mem_of_getElem? rx_cd_78
  | 79, _ => exact List.mem_of_getElem? rx_cd_79
  | 80, _ => exact List.mem_of_getElem? rx_cd_80
  | 81, _ => exact List.mem_of_getElem? rx_cd_81
  | 82, _ => exact List.mem_of_getElem? rx_cd_82
  | 83, _ => exact List.mem_of_getElem? rx_cd_83
  | 84, _ => exact List.mem_of_getElem? rx_cd_84
  | 85, _ => exact List.mem_of_getElem? rx_cd_85
  | 86, _ => exact List.mem_of_getElem? rx_cd_86
  | 87, _ => exact List.mem_of_getElem? rx_cd_87
  | 88, _ => exact List.mem_of_getElem? rx_cd_88
  | 89, _ => exact List.mem_of_getElem? rx_cd_89
  | 90, _ => exact List.mem_of_getElem? rx_cd_90
  | 91, _ => exact List.mem_of_getElem? rx_cd_91
  | 92, _ => exact List.mem_of_getElem? rx_cd_92
  | 93, _ => exact List.mem_of_getElem? rx_cd_93
  | 94, _ => exact List.mem_of_getElem? rx_cd_94
  | 95, _ => exact List.mem_of_getElem? rx_cd_95
  | 96, _ => exact List.mem_of_getElem? rx_cd_96
  | 97, _ => exact List.mem_of_getElem? rx_cd_97
  | 98, _ => exact List.mem_of_getElem? rx_cd_98
  | 99, _ => exact List.mem_of_getElem? rx_cd_99
  | 100, _ => exact List.mem_of_getElem? rx_cd_100
  | 101, _ => exact List.mem_of_getElem? rx_cd_101
  | 102, _ => exact List.mem_of_getElem? rx_cd_102
  | 103, _ => exact List.mem_of_getElem? rx_cd_103
  | 104, _ => exact List.mem_of_getElem? rx_cd_104
  | 105, _ => exact List.mem_of_getElem? rx_cd_105
  | 106, _ => exact List.mem_of_getElem? rx_cd_106
  | 107, _ => exact List.mem_of_getElem? rx_cd_107
  | 108, _ => exact List.mem_of_getElem? rx_cd_108
  | 109, _ => exact List.mem_of_getElem? rx_cd_109
  | 110, _ => exact List.mem_of_getElem? rx_cd_110
  | 111, _ => exact List.mem_of_getElem? rx_cd_111
  | 112, _ => exact List.mem_of_getElem? rx_cd_112
  | 113, _ => exact List.mem_of_getElem? rx_cd_113
  | 114, _ => exact List.mem_of_getElem? rx_cd_114
  | 115, _ => exact List.mem_of_getElem? rx_cd_115
  | 116, _ => exact List.mem_of_getElem? rx_cd_116
  | 117, _ => exact List.mem_of_getElem? rx_cd_117
  | 118, _ => exact List.mem_of_getElem? rx_cd_118
  | 119, _ => exact List.mem_of_getElem? rx_cd_119
  | 120, _ => exact List.mem_of_getElem? rx_cd_120
  | 121, _ => exact List.mem_of_getElem? rx_cd_121
  | 122, _ => exact List.mem_of_getElem? rx_cd_122
  | 123, _ => exact List.mem_of_getElem? rx_cd_123
  | 124, _ => exact List.mem_of_getElem? rx_cd_124
  | 125, _ => exact List.mem_of_getElem? rx_cd_125
  | 126, _ => exact List.mem_of_getElem? rx_cd_126
  | 127, _ => exact List.mem_of_getElem? rx_cd_127
  | 128, _ => exact List.mem_of_getElem? rx_cd_128
  | 129, _ => exact List.mem_of_getElem? rx_cd_129
  | 130, _ => exact List.mem_of_getElem? rx_cd_130
  | 131, _ => exact List.mem_of_getElem? rx_cd_131
  | 132, _ => exact List.mem_of_getElem? rx_cd_132
  | 133, _ => exact List.mem_of_getElem? rx_cd_133
  | 134, _ => exact List.mem_of_getElem? rx_cd_134
  | 135, _ => exact List.mem_of_getElem? rx_cd_135
  | 136, _ => exact List.mem_of_getElem? rx_cd_136
  | 137, _ => exact List.mem_of_getElem? rx_cd_137
  | 138, _ => exact List.mem_of_getElem? rx_cd_138
  | 139, _ => exact List.mem_of_getElem? rx_cd_139
  | 140, _ => exact List.mem_of_getElem? rx_cd_140
  | 141, _ => exact List.mem_of_getElem? rx_cd_141
  | 142, _ => exact List.mem_of_getElem? rx_cd_142
  | 143, _ => exact List.mem_of_getElem? rx_cd_143
  | 144, _ => exact List.mem_of_getElem? rx_cd_144
  | 145, _ => exact List.mem_of_getElem? rx_cd_145
  | 146, _ => exact List.mem_of_getElem? rx_cd_146
  | 147, _ => exact List.mem_of_getElem? rx_cd_147
  | 148, _ => exact List.mem_of_getElem? rx_cd_148
  | 149, _ => exact List.mem_of_getElem? rx_cd_149
  | 150, _ => exact List.mem_of_getElem? rx_cd_150
  | 151, _ => exact List.mem_of_getElem? rx_cd_151
  | 152, _ => exact List.mem_of_getElem? rx_cd_152
  | 153, _ => exact List.mem_of_getElem? rx_cd_153
  | 154, _ => exact List.mem_of_getElem? rx_cd_154
  | 155, _ => exact List.mem_of_getElem? rx_cd_155
  | 156, _ => exact List.mem_of_getElem? rx_cd_156
  | 157, _ => exact List.mem_of_getElem? rx_cd_157
  | 158, _ => exact List.mem_of_getElem? rx_cd_158
  | 159, _ => exact List.mem_of_getElem? rx_cd_159
  | 160, _ => exact List.mem_of_getElem? rx_cd_160
  | 161, _ => exact List.mem_of_getElem? rx_cd_161
  | 162, _ => exact List.mem_of_getElem? rx_cd_162
  | 163, _ => exact List.mem_of_getElem? rx_cd_163
  | 164, _ => exact List.mem_of_getElem? rx_cd_164
  | 165, _ => exact List.mem_of_getElem? rx_cd_165
  | 166, _ => exact List.mem_of_getElem? rx_cd_166
  | 167, _ => exact List.mem_of_getElem? rx_cd_167
  | 168, _ => exact List.mem_of_getElem? rx_cd_168
  | 169, _ => exact List.mem_of_getElem? rx_cd_169
  | 170, _ => exact List.mem_of_getElem? rx_cd_170
  | 171, _ => exact List.mem_of_getElem? rx_cd_171
  | n + 172, h => exact absurd h (by omega)
theorem rx_mok : (List.range 173).all rx_okM = true := by decide +kernel
theorem rx_ck_0 : rx_tb_0.all (rx_okI 0) = true := rx_ck_0_0
theorem rx_ck_1 : rx_tb_1.all (rx_okI 1) = true := rx_ck_1_0
theorem rx_ck_2 : rx_tb_2.all (rx_okI 2) = true := rx_ck_2_0
theorem rx_ck_3 : rx_tb_3.all (rx_okI 3) = true := rx_ck_3_0
theorem rx_ck_4 : rx_tb_4.all (rx_okI 4) = true := by
  unfold rx_tb_4
  simp only [List.all_append, rx_ck_4_0, rx_ck_4_1, Bool.and_self]
theorem rx_ck_5 : rx_tb_5.all (rx_okI 5) = true := rx_ck_5_0
theorem rx_ck_6 : rx_tb_6.all (rx_okI 6) = true := rx_ck_6_0
theorem rx_ck_7 : rx_tb_7.all (rx_okI 7) = true := rx_ck_7_0
theorem rx_ck_8 : rx_tb_8.all (rx_okI 8) = true := rx_ck_8_0
theorem rx_ck_9 : rx_tb_9.all (rx_okI 9) = true := rx_ck_9_0
theorem rx_ck_10 : rx_tb_10.all (rx_okI 10) = true := rx_ck_10_0
theorem rx_ck_11 : rx_tb_11.all (rx_okI 11) = true := rx_ck_11_0
theorem rx_ck_12 : rx_tb_12.all (rx_okI 12) = true := rx_ck_12_0
theorem rx_ck_13 : rx_tb_13.all (rx_okI 13) = true := rx_ck_13_0
theorem rx_ck_14 : rx_tb_14.all (rx_okI 14) = true := rx_ck_14_0
theorem rx_ck_15 : rx_tb_15.all (rx_okI 15) = true := rx_ck_15_0
theorem rx_ck_16 : rx_tb_16.all (rx_okI 16) = true := rx_ck_16_0
theorem rx_ck_17 : rx_tb_17.all (rx_okI 17) = true := rx_ck_17_0
theorem rx_ck_18 : rx_tb_18.all (rx_okI 18) = true := rx_ck_18_0
theorem rx_ck_19 : rx_tb_19.all (rx_okI 19) = true := rx_ck_19_0
theorem rx_ck_20 : rx_tb_20.all (rx_okI 20) = true := rx_ck_20_0
theorem rx_ck_21 : rx_tb_21.all (rx_okI 21) = true := by
  unfold rx_tb_21
  simp only [List.all_append, rx_ck_21_0, rx_ck_21_1, Bool.and_self]
theorem rx_ck_22 : rx_tb_22.all (rx_okI 22) = true := by
  unfold rx_tb_22
  simp only [List.all_append, rx_ck_22_0, rx_ck_22_1, Bool.and_self]
theorem rx_ck_23 : rx_tb_23.all (rx_okI 23) = true := rx_ck_23_0
theorem rx_ck_24 : rx_tb_24.all (rx_okI 24) = true := rx_ck_24_0
theorem rx_ck_25 : rx_tb_25.all (rx_okI 25) = true := by
  unfold rx_tb_25
  simp only [List.all_append, rx_ck_25_0, rx_ck_25_1, Bool.and_self]
theorem rx_ck_26 : rx_tb_26.all (rx_okI 26) = true := rx_ck_26_0
theorem rx_ck_27 : rx_tb_27.all (rx_okI 27) = true := by
  unfold rx_tb_27
  simp only [List.all_append, rx_ck_27_0, rx_ck_27_1, Bool.and_self]
theorem rx_ck_28 : rx_tb_28.all (rx_okI 28) = true := by
  unfold rx_tb_28
  simp only [List.all_append, rx_ck_28_0, rx_ck_28_1, Bool.and_self]
theorem rx_ck_29 : rx_tb_29.all (rx_okI 29) = true := by
  unfold rx_tb_29
  simp only [List.all_append, rx_ck_29_0, rx_ck_29_1, Bool.and_self]
theorem rx_ck_30 : rx_tb_30.all (rx_okI 30) = true := rx_ck_30_0
theorem rx_ck_31 : rx_tb_31.all (rx_okI 31) = true := rx_ck_31_0
theorem rx_ck_32 : rx_tb_32.all (rx_okI 32) = true := rx_ck_32_0
theorem rx_ck_33 : rx_tb_33.all (rx_okI 33) = true := rx_ck_33_0
theorem rx_ck_34 : rx_tb_34.all (rx_okI 34) = true := rx_ck_34_0
theorem rx_ck_35 : rx_tb_35.all (rx_okI 35) = true := rx_ck_35_0
theorem rx_ck_36 : rx_tb_36.all (rx_okI 36) = true := rx_ck_36_0
theorem rx_ck_37 : rx_tb_37.all (rx_okI 37) = true := rx_ck_37_0
theorem rx_ck_38 : rx_tb_38.all (rx_okI 38) = true := rx_ck_38_0
theorem rx_ck_39 : rx_tb_39.all (rx_okI 39) = true := rx_ck_39_0
theorem rx_ck_40 : rx_tb_40.all (rx_okI 40) = true := rx_ck_40_0
theorem rx_ck_41 : rx_tb_41.all (rx_okI 41) = true := rx_ck_41_0
theorem rx_ck_42 : rx_tb_42.all (rx_okI 42) = true := rx_ck_42_0
theorem rx_ck_43 : rx_tb_43.all (rx_okI 43) = true := rx_ck_43_0
theorem rx_ck_44 : rx_tb_44.all (rx_okI 44) = true := rx_ck_44_0
theorem rx_ck_45 : rx_tb_45.all (rx_okI 45) = true := rx_ck_45_0
theorem rx_ck_46 : rx_tb_46.all (rx_okI 46) = true := rx_ck_46_0
theorem rx_ck_47 : rx_tb_47.all (rx_okI 47) = true := rx_ck_47_0
theorem rx_ck_48 : rx_tb_48.all (rx_okI 48) = true := rx_ck_48_0
theorem rx_ck_49 : rx_tb_49.all (rx_okI 49) = true := rx_ck_49_0
theorem rx_ck_50 : rx_tb_50.all (rx_okI 50) = true := by
  unfold rx_tb_50
  simp only [List.all_append, rx_ck_50_0, rx_ck_50_1, Bool.and_self]
theorem rx_ck_51 : rx_tb_51.all (rx_okI 51) = true := rx_ck_51_0
theorem rx_ck_52 : rx_tb_52.all (rx_okI 52) = true := rx_ck_52_0
theorem rx_ck_53 : rx_tb_53.all (rx_okI 53) = true := rx_ck_53_0
theorem rx_ck_54 : rx_tb_54.all (rx_okI 54) = true := rx_ck_54_0
theorem rx_ck_55 : rx_tb_55.all (rx_okI 55) = true := by
  unfold rx_tb_55
  simp only [List.all_append, rx_ck_55_0, rx_ck_55_1, Bool.and_self]
theorem rx_ck_56 : rx_tb_56.all (rx_okI 56) = true := rx_ck_56_0
theorem rx_ck_57 : rx_tb_57.all (rx_okI 57) = true := rx_ck_57_0
theorem rx_ck_58 : rx_tb_58.all (rx_okI 58) = true := rx_ck_58_0
theorem rx_ck_59 : rx_tb_59.all (rx_okI 59) = true := rx_ck_59_0
theorem rx_ck_60 : rx_tb_60.all (rx_okI 60) = true := rx_ck_60_0
theorem rx_ck_61 : rx_tb_61.all (rx_okI 61) = true := rx_ck_61_0
theorem rx_ck_62 : rx_tb_62.all (rx_okI 62) = true := rx_ck_62_0
theorem rx_ck_63 : rx_tb_63.all (rx_okI 63) = true := rx_ck_63_0
theorem rx_ck_64 : rx_tb_64.all (rx_okI 64) = true := rx_ck_64_0
theorem rx_ck_65 : rx_tb_65.all (rx_okI 65) = true := rx_ck_65_0
theorem rx_ck_66 : rx_tb_66.all (rx_okI 66) = true := rx_ck_66_0
theorem rx_ck_67 : rx_tb_67.all (rx_okI 67) = true := rx_ck_67_0
theorem rx_ck_68 : rx_tb_68.all (rx_okI 68) = true := by
  unfold rx_tb_68
  simp only [List.all_append, rx_ck_68_0, rx_ck_68_1, Bool.and_self]
theorem rx_ck_69 : rx_tb_69.all (rx_okI 69) = true := rx_ck_69_0
theorem rx_ck_70 : rx_tb_70.all (rx_okI 70) = true := by
  unfold rx_tb_70
  simp only [List.all_append, rx_ck_70_0, rx_ck_70_1, Bool.and_self]
theorem rx_ck_71 : rx_tb_71.all (rx_okI 71) = true := rx_ck_71_0
theorem rx_ck_72 : rx_tb_72.all (rx_okI 72) = true := rx_ck_72_0
theorem rx_ck_73 : rx_tb_73.all (rx_okI 73) = true := rx_ck_73_0
theorem rx_ck_74 : rx_tb_74.all (rx_okI 74) = true := by
  unfold rx_tb_74
  simp only [List.all_append, rx_ck_74_0, rx_ck_74_1, Bool.and_self]
theorem rx_ck_75 : rx_tb_75.all (rx_okI 75) = true := rx_ck_75_0
theorem rx_ck_76 : rx_tb_76.all (rx_okI 76) = true := rx_ck_76_0
theorem rx_ck_77 : rx_tb_77.all (rx_okI 77) = true := rx_ck_77_0
theorem rx_ck_78 : rx_tb_78.all (rx_okI 78) = true := rx_ck_78_0
theorem rx_ck_79 : rx_tb_79.all (rx_okI 79) = true := rx_ck_79_0
theorem rx_ck_80 : rx_tb_80.all (rx_okI 80) = true := rx_ck_80_0
theorem rx_ck_81 : rx_tb_81.all (rx_okI 81) = true := rx_ck_81_0
theorem rx_ck_82 : rx_tb_82.all (rx_okI 82) = true := by
  unfold rx_tb_82
  simp only [List.all_append, rx_ck_82_0, rx_ck_82_1, Bool.and_self]
theorem rx_ck_83 : rx_tb_83.all (rx_okI 83) = true := rx_ck_83_0
theorem rx_ck_84 : rx_tb_84.all (rx_okI 84) = true := by
  unfold rx_tb_84
  simp only [List.all_append, rx_ck_84_0, rx_ck_84_1, Bool.and_self]
theorem rx_ck_85 : rx_tb_85.all (rx_okI 85) = true := rx_ck_85_0
theorem rx_ck_86 : rx_tb_86.all (rx_okI 86) = true := rx_ck_86_0
theorem rx_ck_87 : rx_tb_87.all (rx_okI 87) = true := rx_ck_87_0
theorem rx_ck_88 : rx_tb_88.all (rx_okI 88) = true := by
  unfold rx_tb_88
  simp only [List.all_append, rx_ck_88_0, rx_ck_88_1, Bool.and_self]
theorem rx_ck_89 : rx_tb_89.all (rx_okI 89) = true := by
  unfold rx_tb_89
  simp only [List.all_append, rx_ck_89_0, rx_ck_89_1, Bool.and_self]
theorem rx_ck_90 : rx_tb_90.all (rx_okI 90) = true := by
  unfold rx_tb_90
  simp only [List.all_append, rx_ck_90_0, rx_ck_90_1, Bool.and_self]
theorem rx_ck_91 : rx_tb_91.all (rx_okI 91) = true := rx_ck_91_0
theorem rx_ck_92 : rx_tb_92.all (rx_okI 92) = true := rx_ck_92_0
theorem rx_ck_93 : rx_tb_93.all (rx_okI 93) = true := rx_ck_93_0
theorem rx_ck_94 : rx_tb_94.all (rx_okI 94) = true := rx_ck_94_0
theorem rx_ck_95 : rx_tb_95.all (rx_okI 95) = true := rx_ck_95_0
theorem rx_ck_96 : rx_tb_96.all (rx_okI 96) = true := rx_ck_96_0
theorem rx_ck_97 : rx_tb_97.all (rx_okI 97) = true := rx_ck_97_0
theorem rx_ck_98 : rx_tb_98.all (rx_okI 98) = true := rx_ck_98_0
theorem rx_ck_99 : rx_tb_99.all (rx_okI 99) = true := rx_ck_99_0
theorem rx_ck_100 : rx_tb_100.all (rx_okI 100) = true := rx_ck_100_0
theorem rx_ck_101 : rx_tb_101.all (rx_okI 101) = true := rx_ck_101_0
theorem rx_ck_102 : rx_tb_102.all (rx_okI 102) = true := rx_ck_102_0
theorem rx_ck_103 : rx_tb_103.all (rx_okI 103) = true := rx_ck_103_0
theorem rx_ck_104 : rx_tb_104.all (rx_okI 104) = true := by
  unfold rx_tb_104
  simp only [List.all_append, rx_ck_104_0, rx_ck_104_1, Bool.and_self]
theorem rx_ck_105 : rx_tb_105.all (rx_okI 105) = true := rx_ck_105_0
theorem rx_ck_106 : rx_tb_106.all (rx_okI 106) = true := rx_ck_106_0
theorem rx_ck_107 : rx_tb_107.all (rx_okI 107) = true := rx_ck_107_0
theorem rx_ck_108 : rx_tb_108.all (rx_okI 108) = true := rx_ck_108_0
theorem rx_ck_109 : rx_tb_109.all (rx_okI 109) = true := rx_ck_109_0
theorem rx_ck_110 : rx_tb_110.all (rx_okI 110) = true := rx_ck_110_0
theorem rx_ck_111 : rx_tb_111.all (rx_okI 111) = true := rx_ck_111_0
theorem rx_ck_112 : rx_tb_112.all (rx_okI 112) = true := rx_ck_112_0
theorem rx_ck_113 : rx_tb_113.all (rx_okI 113) = true := rx_ck_113_0
theorem rx_ck_114 : rx_tb_114.all (rx_okI 114) = true := by
  unfold rx_tb_114
  simp only [List.all_append, rx_ck_114_0, rx_ck_114_1, Bool.and_self]
theorem rx_ck_115 : rx_tb_115.all (rx_okI 115) = true := rx_ck_115_0
theorem rx_ck_116 : rx_tb_116.all (rx_okI 116) = true := rx_ck_116_0
theorem rx_ck_117 : rx_tb_117.all (rx_okI 117) = true := rx_ck_117_0
theorem rx_ck_118 : rx_tb_118.all (rx_okI 118) = true := rx_ck_118_0
theorem rx_ck_119 : rx_tb_119.all (rx_okI 119) = true := by
  unfold rx_tb_119
  simp only [List.all_append, rx_ck_119_0, rx_ck_119_1, Bool.and_self]
theorem rx_ck_120 : rx_tb_120.all (rx_okI 120) = true := rx_ck_120_0
theorem rx_ck_121 : rx_tb_121.all (rx_okI 121) = true := rx_ck_121_0
theorem rx_ck_122 : rx_tb_122.all (rx_okI 122) = true := rx_ck_122_0
theorem rx_ck_123 : rx_tb_123.all (rx_okI 123) = true := rx_ck_123_0
theorem rx_ck_124 : rx_tb_124.all (rx_okI 124) = true := by
  unfold rx_tb_124
  simp only [List.all_append, rx_ck_124_0, rx_ck_124_1, Bool.and_self]
theorem rx_ck_125 : rx_tb_125.all (rx_okI 125) = true := by
  unfold rx_tb_125
  simp only [List.all_append, rx_ck_125_0, rx_ck_125_1, Bool.and_self]
theorem rx_ck_126 : rx_tb_126.all (rx_okI 126) = true := by
  unfold rx_tb_126
  simp only [List.all_append, rx_ck_126_0, rx_ck_126_1, rx_ck_126_2, Bool.and_self]
theorem rx_ck_127 : rx_tb_127.all (rx_okI 127) = true := rx_ck_127_0
theorem rx_ck_128 : rx_tb_128.all (rx_okI 128) = true := rx_ck_128_0
theorem rx_ck_129 : rx_tb_129.all (rx_okI 129) = true := by
  unfold rx_tb_129
  simp only [List.all_append, rx_ck_129_0, rx_ck_129_1, Bool.and_self]
theorem rx_ck_130 : rx_tb_130.all (rx_okI 130) = true := rx_ck_130_0
theorem rx_ck_131 : rx_tb_131.all (rx_okI 131) = true := by
  unfold rx_tb_131
  simp only [List.all_append, rx_ck_131_0, rx_ck_131_1, rx_ck_131_2, Bool.and_self]
theorem rx_ck_132 : rx_tb_132.all (rx_okI 132) = true := rx_ck_132_0
theorem rx_ck_133 : rx_tb_133.all (rx_okI 133) = true := rx_ck_133_0
theorem rx_ck_134 : rx_tb_134.all (rx_okI 134) = true := by
  unfold rx_tb_134
  simp only [List.all_append, rx_ck_134_0, rx_ck_134_1, rx_ck_134_2, Bool.and_self]
theorem rx_ck_135 : rx_tb_135.all (rx_okI 135) = true := rx_ck_135_0
theorem rx_ck_136 : rx_tb_136.all (rx_okI 136) = true := rx_ck_136_0
theorem rx_ck_137 : rx_tb_137.all (rx_okI 137) = true := rx_ck_137_0
theorem rx_ck_138 : rx_tb_138.all (rx_okI 138) = true := rx_ck_138_0
theorem rx_ck_139 : rx_tb_139.all (rx_okI 139) = true := rx_ck_139_0
theorem rx_ck_140 : rx_tb_140.all (rx_okI 140) = true := rx_ck_140_0
theorem rx_ck_141 : rx_tb_141.all (rx_okI 141) = true := by
  unfold rx_tb_141
  simp only [List.all_append, rx_ck_141_0, rx_ck_141_1, Bool.and_self]
theorem rx_ck_142 : rx_tb_142.all (rx_okI 142) = true := by
  unfold rx_tb_142
  simp only [List.all_append, rx_ck_142_0, rx_ck_142_1, Bool.and_self]
theorem rx_ck_143 : rx_tb_143.all (rx_okI 143) = true := rx_ck_143_0
theorem rx_ck_144 : rx_tb_144.all (rx_okI 144) = true := rx_ck_144_0
theorem rx_ck_145 : rx_tb_145.all (rx_okI 145) = true := rx_ck_145_0
theorem rx_ck_146 : rx_tb_146.all (rx_okI 146) = true := rx_ck_146_0
theorem rx_ck_147 : rx_tb_147.all (rx_okI 147) = true := rx_ck_147_0
theorem rx_ck_148 : rx_tb_148.all (rx_okI 148) = true := rx_ck_148_0
theorem rx_ck_149 : rx_tb_149.all (rx_okI 149) = true := by
  unfold rx_tb_149
  simp only [List.all_append, rx_ck_149_0, rx_ck_149_1, Bool.and_self]
theorem rx_ck_150 : rx_tb_150.all (rx_okI 150) = true := rx_ck_150_0
theorem rx_ck_151 : rx_tb_151.all (rx_okI 151) = true := by
  unfold rx_tb_151
  simp only [List.all_append, rx_ck_151_0, rx_ck_151_1, Bool.and_self]
theorem rx_ck_152 : rx_tb_152.all (rx_okI 152) = true := rx_ck_152_0
theorem rx_ck_153 : rx_tb_153.all (rx_okI 153) = true := rx_ck_153_0
theorem rx_ck_154 : rx_tb_154.all (rx_okI 154) = true := rx_ck_154_0
theorem rx_ck_155 : rx_tb_155.all (rx_okI 155) = true := by
  unfold rx_tb_155
  simp only [List.all_append, rx_ck_155_0, rx_ck_155_1, Bool.and_self]
theorem rx_ck_156 : rx_tb_156.all (rx_okI 156) = true := by
  unfold rx_tb_156
  simp only [List.all_append, rx_ck_156_0, rx_ck_156_1, Bool.and_self]
theorem rx_ck_157 : rx_tb_157.all (rx_okI 157) = true := by
  unfold rx_tb_157
  simp only [List.all_append, rx_ck_157_0, rx_ck_157_1, Bool.and_self]
theorem rx_ck_158 : rx_tb_158.all (rx_okI 158) = true := by
  unfold rx_tb_158
  simp only [List.all_append, rx_ck_158_0, rx_ck_158_1, Bool.and_self]
theorem rx_ck_159 : rx_tb_159.all (rx_okI 159) = true := rx_ck_159_0
theorem rx_ck_160 : rx_tb_160.all (rx_okI 160) = true := rx_ck_160_0
theorem rx_ck_161 : rx_tb_161.all (rx_okI 161) = true := by
  unfold rx_tb_161
  simp only [List.all_append, rx_ck_161_0, rx_ck_161_1, Bool.and_self]
theorem rx_ck_162 : rx_tb_162.all (rx_okI 162) = true := rx_ck_162_0
theorem rx_ck_163 : rx_tb_163.all (rx_okI 163) = true := rx_ck_163_0
theorem rx_ck_164 : rx_tb_164.all (rx_okI 164) = true := rx_ck_164_0
theorem rx_ck_165 : rx_tb_165.all (rx_okI 165) = true := rx_ck_165_0
theorem rx_ck_166 : rx_tb_166.all (rx_okI 166) = true := rx_ck_166_0
theorem rx_ck_167 : rx_tb_167.all (rx_okI 167) = true := by
  unfold rx_tb_167
  simp only [List.all_append, rx_ck_167_0, rx_ck_167_1, Bool.and_self]
theorem rx_ck_168 : rx_tb_168.all (rx_okI 168) = true := rx_ck_168_0
theorem rx_ck_169 : rx_tb_169.all (rx_okI 169) = true := rx_ck_169_0
theorem rx_ck_170 : rx_tb_170.all (rx_okI 170) = true := rx_ck_170_0
theorem rx_ck_171 : rx_tb_171.all (rx_okI 171) = true := rx_ck_171_0
theorem rx_ck_172 : rx_tb_172.all (rx_okI 172) = true := by
  unfold rx_tb_172
  simp only [List.all_append, rx_ck_172_0, rx_ck_172_1, rx_ck_172_2, rx_ck_172_3, rx_ck_172_4, rx_ck_172_5, rx_ck_172_6, rx_ck_172_7, rx_ck_172_8, rx_ck_172_9, rx_ck_172_10, rx_ck_172_11, rx_ck_172_12, Bool.and_self]
theorem rx_ck (a : Nat) (h : a < 173) : (rx_tbs.getD a []).all (rx_okI a) = true := by
  match a, h with
  | 0, _ => exact rx_ck_0
  | 1, _ => exact rx_ck_1
  | 2, _ => exact rx_ck_2
  | 3, _ => exact rx_ck_3
  | 4, _ => exact rx_ck_4
  | 5, _ => exact rx_ck_5
  | 6, _ => exact rx_ck_6
  | 7, _ => exact rx_ck_7
  | 8, _ => exact rx_ck_8
  | 9, _ => exact rx_ck_9
  | 10, _ => exact rx_ck_10
  | 11, _ => exact rx_ck_11
  | 12, _ => exact rx_ck_12
  | 13, _ => exact rx_ck_13
  | 14, _ => exact rx_ck_14
  | 15, _ => exact rx_ck_15
  | 16, _ => exact rx_ck_16
  | 17, _ => exact rx_ck_17
  | 18, _ => exact rx_ck_18
  | 19, _ => exact rx_ck_19
  | 20, _ => exact rx_ck_20
  | 21, _ => exact rx_ck_21
  | 22, _ => exact rx_ck_22
  | 23, _ => exact rx_ck_23
  | 24, _ => exact rx_ck_24
  | 25, _ => exact rx_ck_25
  | 26, _ => exact rx_ck_26
  | 27, _ => exact rx_ck_27
  | 28, _ => exact rx_ck_28
  | 29, _ => exact rx_ck_29
  | 30, _ => exact rx_ck_30
  | 31, _ => exact rx_ck_31
  | 32, _ => exact rx_ck_32
  | 33, _ => exact rx_ck_33
  | 34, _ => exact rx_ck_34
  | 35, _ => exact rx_ck_35
  | 36, _ => exact rx_ck_36
  | 37, _ => exact rx_ck_37
  | 38, _ => exact rx_ck_38
  | 39, _ => exact rx_ck_39
  | 40, _ => exact rx_ck_40
  | 41, _ => exact rx_ck_41
  | 42, _ => exact rx_ck_42
  | 43, _ => exact rx_ck_43
  | 44, _ => exact rx_ck_44
  | 45, _ => exact rx_ck_45
  | 46, _ => exact rx_ck_46
  | 47, _ => exact rx_ck_47
  | 48, _ => exact rx_ck_48
  | 49, _ => exact rx_ck_49
  | 50, _ => exact rx_ck_50
  | 51, _ => exact rx_ck_51
  | 52, _ => exact rx_ck_52
  | 53, _ => exact rx_ck_53
  | 54, _ => exact rx_ck_54
  | 55, _ => exact rx_ck_55
  | 56, _ => exact rx_ck_56
  | 57, _ => exact rx_ck_57
  | 58, _ => exact rx_ck_58
  | 59, _ => exact rx_ck_59
  | 60, _ => exact rx_ck_60
  | 61, _ => exact rx_ck_61
  | 62, _ => exact rx_ck_62
  | 63, _ => exact rx_ck_63
  | 64, _ => exact rx_ck_64
  | 65, _ => exact rx_ck_65
  | 66, _ => exact rx_ck_66
  | 67, _ => exact rx_ck_67
  | 68, _ => exact rx_ck_68
  | 69, _ => exact rx_ck_69
  | 70, _ => exact rx_ck_70
  | 71, _ => exact rx_ck_71
  | 72, _ => exact rx_ck_72
  | 73, _ => exact rx_ck_73
  | 74, _ => exact rx_ck_74
  | 75, _ => exact rx_ck_75
  | 76, _ => exact rx_ck_76
  | 77, _ => exact rx_ck_77
  | 78, _ => exact rx_ck_78
  | 79, _ => exact rx_ck_79
  | 80, _ => exact rx_ck_80
  | 81, _ => exact rx_ck_81
  | 82, _ => exact rx_ck_82
  | 83, _ => exact rx_ck_83
  | 84, _ => exact rx_ck_84
  | 85, _ => exact rx_ck_85
  | 86, _ => exact rx_ck_86
  | 87, _ => exact rx_ck_87
  | 88, _ => exact rx_ck_88
  | 89, _ => exact rx_ck_89
  | 90, _ => exact rx_ck_90
  | 91, _ => exact rx_ck_91
  | 92, _ => exact rx_ck_92
  | 93, _ => exact rx_ck_93
  | 94, _ => exact rx_ck_94
  | 95, _ => exact rx_ck_95
  | 96, _ => exact rx_ck_96
  | 97, _ => exact rx_ck_97
  | 98, _ => exact rx_ck_98
  | 99, _ => exact rx_ck_99
  | 100, _ => exact rx_ck_100
  | 101, _ => exact rx_ck_101
  | 102, _ => exact rx_ck_102
  | 103, _ => exact rx_ck_103
  | 104, _ => exact rx_ck_104
  | 105, _ => exact rx_ck_105
  | 106, _ => exact rx_ck_106
  | 107, _ => exact rx_ck_107
  | 108, _ => exact rx_ck_108
  | 109, _ => exact rx_ck_109
  | 110, _ => exact rx_ck_110
  | 111, _ => exact rx_ck_111
  | 112, _ => exact rx_ck_112
  | 113, _ => exact rx_ck_113
  | 114, _ => exact rx_ck_114
  | 115, _ => exact rx_ck_115
  | 116, _ => exact rx_ck_116
  | 117, _ => exact rx_ck_117
  | 118, _ => exact rx_ck_118
  | 119, _ => exact rx_ck_119
  | 120, _ => exact rx_ck_120
  | 121, _ => exact rx_ck_121
  | 122, _ => exact rx_ck_122
  | 123, _ => exact rx_ck_123
  | 124, _ => exact rx_ck_124
  | 125, _ => exact rx_ck_125
  | 126, _ => exact rx_ck_126
  | 127, _ => exact rx_ck_127
  | 128, _ => exact rx_ck_128
  | 129, _ => exact rx_ck_129
  | 130, _ => exact rx_ck_130
  | 131, _ => exact rx_ck_131
  | 132, _ => exact rx_ck_132
  | 133, _ => exact rx_ck_133
  | 134, _ => exact rx_ck_134
  | 135, _ => exact rx_ck_135
  | 136, _ => exact rx_ck_136
  | 137, _ => exact rx_ck_137
  | 138, _ => exact rx_ck_138
  | 139, _ => exact rx_ck_139
  | 140, _ => exact rx_ck_140
  | 141, _ => exact rx_ck_141
  | 142, _ => exact rx_ck_142
  | 143, _ => exact rx_ck_143
  | 144, _ => exact rx_ck_144
  | 145, _ => exact rx_ck_145
  | 146, _ => exact rx_ck_146
  | 147, _ => exact rx_ck_147
  | 148, _ => exact rx_ck_148
  | 149, _ => exact rx_ck_149
  | 150, _ => exact rx_ck_150
  | 151, _ => exact rx_ck_151
  | 152, _ => exact rx_ck_152
  | 153, _ => exact rx_ck_153
  | 154, _ => exact rx_ck_154
  | 155, _ => exact rx_ck_155
  | 156, _ => exact rx_ck_156
  | 157, _ => exact rx_ck_157
  | 158, _ => exact rx_ck_158
  | 159, _ => exact rx_ck_159
  | 160, _ => exact rx_ck_160
  | 161, _ => exact rx_ck_161
  | 162, _ => exact rx_ck_162
  | 163, _ => exact rx_ck_163
  | 164, _ => exact rx_ck_164
  | 165, _ => exact rx_ck_165
  | 166, _ => exact rx_ck_166
  | 167, _ => exact rx_ck_167
  | 168, _ => exact rx_ck_168
  | 169, _ => exact rx_ck_169
  | 170, _ => exact rx_ck_170
  | 171, _ => exact rx_ck_171
  | 172, _ => exact rx_ck_172
  | n + 173, h => exact absurd h (by omega)

/-! the methods' codes stand in the tables -/
set_option maxRecDepth 100000 in
theorem cw_1 : Cond.code mt_1.1 mt_1.2.1 mt_1.2.2.1 mt_1.2.2.2.1 ∈ am_ws := List.mem_filter.mpr ⟨List.mem_of_getElem? (i := 96) rfl, rfl⟩
set_option maxRecDepth 100000 in
theorem cw_2 : Cond.code mt_2.1 mt_2.2.1 mt_2.2.2.1 mt_2.2.2.2.1 ∈ am_ws := List.mem_filter.mpr ⟨List.mem_of_getElem? (i := 399) rfl, rfl⟩
set_option maxRecDepth 100000 in
theorem cw_3 : Cond.code mt_3.1 mt_3.2.1 mt_3.2.2.1 mt_3.2.2.2.1 ∈ am_ws := List.mem_filter.mpr ⟨List.mem_of_getElem? (i := 410) rfl, rfl⟩
set_option maxRecDepth 100000 in
theorem cw_4 : Cond.code mt_4.1 mt_4.2.1 mt_4.2.2.1 mt_4.2.2.2.1 ∈ am_ws := List.mem_filter.mpr ⟨List.mem_of_getElem? (i := 587) rfl, rfl⟩
set_option maxRecDepth 100000 in
theorem cw_5 : Cond.code mt_5.1 mt_5.2.1 mt_5.2.2.1 mt_5.2.2.2.1 ∈ am_ws := List.mem_filter.mpr ⟨List.mem_of_getElem? (i := 591) rfl, rfl⟩
set_option maxRecDepth 100000 in
theorem cw_6 : Cond.code mt_6.1 mt_6.2.1 mt_6.2.2.1 mt_6.2.2.2.1 ∈ am_ws := List.mem_filter.mpr ⟨List.mem_of_getElem? (i := 630) rfl, rfl⟩
set_option maxRecDepth 100000 in
theorem cw_7 : Cond.code mt_7.1 mt_7.2.1 mt_7.2.2.1 mt_7.2.2.2.1 ∈ am_ws := List.mem_filter.mpr ⟨List.mem_of_getElem? (i := 634) rfl, rfl⟩
set_option maxRecDepth 100000 in
theorem cw_8 : Cond.code mt_8.1 mt_8.2.1 mt_8.2.2.1 mt_8.2.2.2.1 ∈ am_ws := List.mem_filter.mpr ⟨List.mem_of_getElem? (i := 638) rfl, rfl⟩
set_option maxRecDepth 100000 in
theorem cw_9 : Cond.code mt_9.1 mt_9.2.1 mt_9.2.2.1 mt_9.2.2.2.1 ∈ am_ws := List.mem_filter.mpr ⟨List.mem_of_getElem? (i := 646) rfl, rfl⟩
set_option maxRecDepth 100000 in
theorem cw_10 : Cond.code mt_10.1 mt_10.2.1 mt_10.2.2.1 mt_10.2.2.2.1 ∈ am_ws := List.mem_filter.mpr ⟨List.mem_of_getElem? (i := 712) rfl, rfl⟩
set_option maxRecDepth 100000 in
theorem cw_11 : Cond.code mt_11.1 mt_11.2.1 mt_11.2.2.1 mt_11.2.2.2.1 ∈ am_ws := List.mem_filter.mpr ⟨List.mem_of_getElem? (i := 738) rfl, rfl⟩
set_option maxRecDepth 100000 in
theorem cw_12 : Cond.code mt_12.1 mt_12.2.1 mt_12.2.2.1 mt_12.2.2.2.1 ∈ am_ws := List.mem_filter.mpr ⟨List.mem_of_getElem? (i := 742) rfl, rfl⟩
set_option maxRecDepth 100000 in
theorem cw_13 : Cond.code mt_13.1 mt_13.2.1 mt_13.2.2.1 mt_13.2.2.2.1 ∈ am_ws := List.mem_filter.mpr ⟨List.mem_of_getElem? (i := 747) rfl, rfl⟩
set_option maxRecDepth 100000 in
theorem cw_14 : Cond.code mt_14.1 mt_14.2.1 mt_14.2.2.1 mt_14.2.2.2.1 ∈ am_ws := List.mem_filter.mpr ⟨List.mem_of_getElem? (i := 933) rfl, rfl⟩
set_option maxRecDepth 100000 in
theorem cw_15 : Cond.code mt_15.1 mt_15.2.1 mt_15.2.2.1 mt_15.2.2.2.1 ∈ am_ws := List.mem_filter.mpr ⟨List.mem_of_getElem? (i := 966) rfl, rfl⟩
set_option maxRecDepth 100000 in
theorem cw_16 : Cond.code mt_16.1 mt_16.2.1 mt_16.2.2.1 mt_16.2.2.2.1 ∈ am_ws := List.mem_filter.mpr ⟨List.mem_of_getElem? (i := 969) rfl, rfl⟩
set_option maxRecDepth 100000 in
theorem cw_17 : Cond.code mt_17.1 mt_17.2.1 mt_17.2.2.1 mt_17.2.2.2.1 ∈ am_ws := List.mem_filter.mpr ⟨List.mem_of_getElem? (i := 946) rfl, rfl⟩
set_option maxRecDepth 100000 in
theorem cw_18 : Cond.code mt_18.1 mt_18.2.1 mt_18.2.2.1 mt_18.2.2.2.1 ∈ am_ws := List.mem_filter.mpr ⟨List.mem_of_getElem? (i := 955) rfl, rfl⟩
set_option maxRecDepth 100000 in
theorem cw_19 : Cond.code mt_19.1 mt_19.2.1 mt_19.2.2.1 mt_19.2.2.2.1 ∈ am_ws := List.mem_filter.mpr ⟨List.mem_of_getElem? (i := 963) rfl, rfl⟩
set_option maxRecDepth 100000 in
theorem cw_20 : Cond.code mt_20.1 mt_20.2.1 mt_20.2.2.1 mt_20.2.2.2.1 ∈ am_ws := List.mem_filter.mpr ⟨List.mem_of_getElem? (i := 973) rfl, rfl⟩
set_option maxRecDepth 100000 in
theorem cw_21 : Cond.code mt_21.1 mt_21.2.1 mt_21.2.2.1 mt_21.2.2.2.1 ∈ am_ws := List.mem_filter.mpr ⟨List.mem_of_getElem? (i := 959) rfl, rfl⟩
set_option maxRecDepth 100000 in
theorem cw_22 : Cond.code mt_22.1 mt_22.2.1 mt_22.2.2.1 mt_22.2.2.2.1 ∈ am_ws := List.mem_filter.mpr ⟨List.mem_of_getElem? (i := 978) rfl, rfl⟩
set_option maxRecDepth 100000 in
theorem cw_23 : Cond.code mt_23.1 mt_23.2.1 mt_23.2.2.1 mt_23.2.2.2.1 ∈ am_ws := List.mem_filter.mpr ⟨List.mem_of_getElem? (i := 999) rfl, rfl⟩
set_option maxRecDepth 100000 in
theorem cw_24 : Cond.code mt_24.1 mt_24.2.1 mt_24.2.2.1 mt_24.2.2.2.1 ∈ am_ws := List.mem_filter.mpr ⟨List.mem_of_getElem? (i := 1003) rfl, rfl⟩
set_option maxRecDepth 100000 in
theorem cw_25 : Cond.code mt_25.1 mt_25.2.1 mt_25.2.2.1 mt_25.2.2.2.1 ∈ am_ws := List.mem_filter.mpr ⟨List.mem_of_getElem? (i := 1007) rfl, rfl⟩
set_option maxRecDepth 100000 in
theorem cw_26 : Cond.code mt_26.1 mt_26.2.1 mt_26.2.2.1 mt_26.2.2.2.1 ∈ am_ws := List.mem_filter.mpr ⟨List.mem_of_getElem? (i := 995) rfl, rfl⟩
set_option maxRecDepth 100000 in
theorem cw_27 : Cond.code mt_27.1 mt_27.2.1 mt_27.2.2.1 mt_27.2.2.2.1 ∈ am_ws := List.mem_filter.mpr ⟨List.mem_of_getElem? (i := 991) rfl, rfl⟩
set_option maxRecDepth 100000 in
theorem cw_28 : Cond.code mt_28.1 mt_28.2.1 mt_28.2.2.1 mt_28.2.2.2.1 ∈ am_ws := List.mem_filter.mpr ⟨List.mem_of_getElem? (i := 1012) rfl, rfl⟩
set_option maxRecDepth 100000 in
theorem cw_29 : Cond.code mt_29.1 mt_29.2.1 mt_29.2.2.1 mt_29.2.2.2.1 ∈ am_ws := List.mem_filter.mpr ⟨List.mem_of_getElem? (i := 1017) rfl, rfl⟩
set_option maxRecDepth 100000 in
theorem cw_30 : Cond.code mt_30.1 mt_30.2.1 mt_30.2.2.1 mt_30.2.2.2.1 ∈ am_ws := List.mem_filter.mpr ⟨List.mem_of_getElem? (i := 1022) rfl, rfl⟩
set_option maxRecDepth 100000 in
theorem cw_31 : Cond.code mt_31.1 mt_31.2.1 mt_31.2.2.1 mt_31.2.2.2.1 ∈ am_ws := List.mem_filter.mpr ⟨List.mem_of_getElem? (i := 1027) rfl, rfl⟩
set_option maxRecDepth 100000 in
theorem cw_32 : Cond.code mt_32.1 mt_32.2.1 mt_32.2.2.1 mt_32.2.2.2.1 ∈ am_ws := List.mem_filter.mpr ⟨List.mem_of_getElem? (i := 950) rfl, rfl⟩
set_option maxRecDepth 100000 in
theorem cw_33 : Cond.code mt_33.1 mt_33.2.1 mt_33.2.2.1 mt_33.2.2.2.1 ∈ am_ws := List.mem_filter.mpr ⟨List.mem_of_getElem? (i := 986) rfl, rfl⟩
set_option maxRecDepth 100000 in
theorem cw_34 : Cond.code mt_34.1 mt_34.2.1 mt_34.2.2.1 mt_34.2.2.2.1 ∈ am_ws := List.mem_filter.mpr ⟨List.mem_of_getElem? (i := 982) rfl, rfl⟩
set_option maxRecDepth 100000 in
theorem cw_35 : Cond.code mt_35.1 mt_35.2.1 mt_35.2.2.1 mt_35.2.2.2.1 ∈ am_ws := List.mem_filter.mpr ⟨List.mem_of_getElem? (i := 942) rfl, rfl⟩
set_option maxRecDepth 100000 in
theorem cw_36 : Cond.code mt_36.1 mt_36.2.1 mt_36.2.2.1 mt_36.2.2.2.1 ∈ am_ws := List.mem_filter.mpr ⟨List.mem_of_getElem? (i := 938) rfl, rfl⟩
set_option maxRecDepth 100000 in
theorem cw_37 : Cond.code mt_37.1 mt_37.2.1 mt_37.2.2.1 mt_37.2.2.2.1 ∈ am_ws := List.mem_filter.mpr ⟨List.mem_of_getElem? (i := 1039) rfl, rfl⟩
set_option maxRecDepth 100000 in
theorem cw_38 : Cond.code mt_38.1 mt_38.2.1 mt_38.2.2.1 mt_38.2.2.2.1 ∈ am_ws := List.mem_filter.mpr ⟨List.mem_of_getElem? (i := 1059) rfl, rfl⟩
set_option maxRecDepth 100000 in
theorem cw_39 : Cond.code mt_39.1 mt_39.2.1 mt_39.2.2.1 mt_39.2.2.2.1 ∈ am_ws := List.mem_filter.mpr ⟨List.mem_of_getElem? (i := 1055) rfl, rfl⟩
set_option maxRecDepth 100000 in
theorem cw_40 : Cond.code mt_40.1 mt_40.2.1 mt_40.2.2.1 mt_40.2.2.2.1 ∈ am_ws := List.mem_filter.mpr ⟨List.mem_of_getElem? (i := 1063) rfl, rfl⟩
set_option maxRecDepth 100000 in
theorem cw_41 : Cond.code mt_41.1 mt_41.2.1 mt_41.2.2.1 mt_41.2.2.2.1 ∈ am_ws := List.mem_filter.mpr ⟨List.mem_of_getElem? (i := 1051) rfl, rfl⟩
set_option maxRecDepth 100000 in
theorem cw_42 : Cond.code mt_42.1 mt_42.2.1 mt_42.2.2.1 mt_42.2.2.2.1 ∈ am_ws := List.mem_filter.mpr ⟨List.mem_of_getElem? (i := 1031) rfl, rfl⟩
set_option maxRecDepth 100000 in
theorem cw_43 : Cond.code mt_43.1 mt_43.2.1 mt_43.2.2.1 mt_43.2.2.2.1 ∈ am_ws := List.mem_filter.mpr ⟨List.mem_of_getElem? (i := 1047) rfl, rfl⟩
set_option maxRecDepth 100000 in
theorem cw_44 : Cond.code mt_44.1 mt_44.2.1 mt_44.2.2.1 mt_44.2.2.2.1 ∈ am_ws := List.mem_filter.mpr ⟨List.mem_of_getElem? (i := 1043) rfl, rfl⟩
set_option maxRecDepth 100000 in
theorem cw_45 : Cond.code mt_45.1 mt_45.2.1 mt_45.2.2.1 mt_45.2.2.2.1 ∈ am_ws := List.mem_filter.mpr ⟨List.mem_of_getElem? (i := 1035) rfl, rfl⟩
set_option maxRecDepth 100000 in
theorem cw_46 : Cond.code mt_46.1 mt_46.2.1 mt_46.2.2.1 mt_46.2.2.2.1 ∈ am_ws := List.mem_filter.mpr ⟨List.mem_of_getElem? (i := 1067) rfl, rfl⟩
set_option maxRecDepth 100000 in
theorem cw_47 : Cond.code mt_47.1 mt_47.2.1 mt_47.2.2.1 mt_47.2.2.2.1 ∈ am_ws := List.mem_filter.mpr ⟨List.mem_of_getElem? (i := 1071) rfl, rfl⟩
set_option maxRecDepth 100000 in
theorem cw_48 : Cond.code mt_48.1 mt_48.2.1 mt_48.2.2.1 mt_48.2.2.2.1 ∈ am_ws := List.mem_filter.mpr ⟨List.mem_of_getElem? (i := 1075) rfl, rfl⟩
set_option maxRecDepth 100000 in
theorem cw_49 : Cond.code mt_49.1 mt_49.2.1 mt_49.2.2.1 mt_49.2.2.2.1 ∈ am_ws := List.mem_filter.mpr ⟨List.mem_of_getElem? (i := 1095) rfl, rfl⟩
set_option maxRecDepth 100000 in
theorem cw_50 : Cond.code mt_50.1 mt_50.2.1 mt_50.2.2.1 mt_50.2.2.2.1 ∈ am_ws := List.mem_filter.mpr ⟨List.mem_of_getElem? (i := 1091) rfl, rfl⟩
set_option maxRecDepth 100000 in
theorem cw_51 : Cond.code mt_51.1 mt_51.2.1 mt_51.2.2.1 mt_51.2.2.2.1 ∈ am_ws := List.mem_filter.mpr ⟨List.mem_of_getElem? (i := 1103) rfl, rfl⟩
set_option maxRecDepth 100000 in
theorem cw_52 : Cond.code mt_52.1 mt_52.2.1 mt_52.2.2.1 mt_52.2.2.2.1 ∈ am_ws := List.mem_filter.mpr ⟨List.mem_of_getElem? (i := 1115) rfl, rfl⟩
set_option maxRecDepth 100000 in
theorem cw_53 : Cond.code mt_53.1 mt_53.2.1 mt_53.2.2.1 mt_53.2.2.2.1 ∈ am_ws := List.mem_filter.mpr ⟨List.mem_of_getElem? (i := 1111) rfl, rfl⟩
set_option maxRecDepth 100000 in
theorem cw_54 : Cond.code mt_54.1 mt_54.2.1 mt_54.2.2.1 mt_54.2.2.2.1 ∈ am_ws := List.mem_filter.mpr ⟨List.mem_of_getElem? (i := 1099) rfl, rfl⟩
set_option maxRecDepth 100000 in
theorem cw_55 : Cond.code mt_55.1 mt_55.2.1 mt_55.2.2.1 mt_55.2.2.2.1 ∈ am_ws := List.mem_filter.mpr ⟨List.mem_of_getElem? (i := 1107) rfl, rfl⟩
set_option maxRecDepth 100000 in
theorem cw_56 : Cond.code mt_56.1 mt_56.2.1 mt_56.2.2.1 mt_56.2.2.2.1 ∈ am_ws := List.mem_filter.mpr ⟨List.mem_of_getElem? (i := 1119) rfl, rfl⟩
set_option maxRecDepth 100000 in
theorem cw_57 : Cond.code mt_57.1 mt_57.2.1 mt_57.2.2.1 mt_57.2.2.2.1 ∈ am_ws := List.mem_filter.mpr ⟨List.mem_of_getElem? (i := 1123) rfl, rfl⟩
set_option maxRecDepth 100000 in
theorem cw_58 : Cond.code mt_58.1 mt_58.2.1 mt_58.2.2.1 mt_58.2.2.2.1 ∈ am_ws := List.mem_filter.mpr ⟨List.mem_of_getElem? (i := 1087) rfl, rfl⟩
set_option maxRecDepth 100000 in
theorem cw_59 : Cond.code mt_59.1 mt_59.2.1 mt_59.2.2.1 mt_59.2.2.2.1 ∈ am_ws := List.mem_filter.mpr ⟨List.mem_of_getElem? (i := 1131) rfl, rfl⟩
set_option maxRecDepth 100000 in
theorem cw_60 : Cond.code mt_60.1 mt_60.2.1 mt_60.2.2.1 mt_60.2.2.2.1 ∈ am_ws := List.mem_filter.mpr ⟨List.mem_of_getElem? (i := 1135) rfl, rfl⟩
set_option maxRecDepth 100000 in
theorem cw_61 : Cond.code mt_61.1 mt_61.2.1 mt_61.2.2.1 mt_61.2.2.2.1 ∈ am_ws := List.mem_filter.mpr ⟨List.mem_of_getElem? (i := 1127) rfl, rfl⟩
set_option maxRecDepth 100000 in
theorem cw_62 : Cond.code mt_62.1 mt_62.2.1 mt_62.2.2.1 mt_62.2.2.2.1 ∈ am_ws := List.mem_filter.mpr ⟨List.mem_of_getElem? (i := 1139) rfl, rfl⟩
set_option maxRecDepth 100000 in
theorem cw_63 : Cond.code mt_63.1 mt_63.2.1 mt_63.2.2.1 mt_63.2.2.2.1 ∈ am_ws := List.mem_filter.mpr ⟨List.mem_of_getElem? (i := 1083) rfl, rfl⟩
set_option maxRecDepth 100000 in
theorem cw_64 : Cond.code mt_64.1 mt_64.2.1 mt_64.2.2.1 mt_64.2.2.2.1 ∈ am_ws := List.mem_filter.mpr ⟨List.mem_of_getElem? (i := 1079) rfl, rfl⟩
set_option maxRecDepth 100000 in
theorem cw_65 : Cond.code mt_65.1 mt_65.2.1 mt_65.2.2.1 mt_65.2.2.2.1 ∈ am_ws := List.mem_filter.mpr ⟨List.mem_of_getElem? (i := 1159) rfl, rfl⟩
set_option maxRecDepth 100000 in
theorem cw_66 : Cond.code mt_66.1 mt_66.2.1 mt_66.2.2.1 mt_66.2.2.2.1 ∈ am_ws := List.mem_filter.mpr ⟨List.mem_of_getElem? (i := 1155) rfl, rfl⟩
set_option maxRecDepth 100000 in
theorem cw_67 : Cond.code mt_67.1 mt_67.2.1 mt_67.2.2.1 mt_67.2.2.2.1 ∈ am_ws := List.mem_filter.mpr ⟨List.mem_of_getElem? (i := 1163) rfl, rfl⟩
set_option maxRecDepth 100000 in
theorem cw_68 : Cond.code mt_68.1 mt_68.2.1 mt_68.2.2.1 mt_68.2.2.2.1 ∈ am_ws := List.mem_filter.mpr ⟨List.mem_of_getElem? (i := 1151) rfl, rfl⟩
set_option maxRecDepth 100000 in
theorem cw_69 : Cond.code mt_69.1 mt_69.2.1 mt_69.2.2.1 mt_69.2.2.2.1 ∈ am_ws := List.mem_filter.mpr ⟨List.mem_of_getElem? (i := 1147) rfl, rfl⟩
set_option maxRecDepth 100000 in
theorem cw_70 : Cond.code mt_70.1 mt_70.2.1 mt_70.2.2.1 mt_70.2.2.2.1 ∈ am_ws := List.mem_filter.mpr ⟨List.mem_of_getElem? (i := 1143) rfl, rfl⟩
set_option maxRecDepth 100000 in
theorem cw_71 : Cond.code mt_71.1 mt_71.2.1 mt_71.2.2.1 mt_71.2.2.2.1 ∈ am_ws := List.mem_filter.mpr ⟨List.mem_of_getElem? (i := 1167) rfl, rfl⟩
set_option maxRecDepth 100000 in
theorem cw_72 : Cond.code mt_72.1 mt_72.2.1 mt_72.2.2.1 mt_72.2.2.2.1 ∈ am_ws := List.mem_filter.mpr ⟨List.mem_of_getElem? (i := 1171) rfl, rfl⟩
set_option maxRecDepth 100000 in
theorem cw_73 : Cond.code mt_73.1 mt_73.2.1 mt_73.2.2.1 mt_73.2.2.2.1 ∈ am_ws := List.mem_filter.mpr ⟨List.mem_of_getElem? (i := 151) rfl, rfl⟩
set_option maxRecDepth 100000 in
theorem cw_74 : Cond.code mt_74.1 mt_74.2.1 mt_74.2.2.1 mt_74.2.2.2.1 ∈ am_ws := List.mem_filter.mpr ⟨List.mem_of_getElem? (i := 538) rfl, rfl⟩
set_option maxRecDepth 100000 in
theorem cw_75 : Cond.code mt_75.1 mt_75.2.1 mt_75.2.2.1 mt_75.2.2.2.1 ∈ am_ws := List.mem_filter.mpr ⟨List.mem_of_getElem? (i := 625) rfl, rfl⟩
set_option maxRecDepth 100000 in
theorem cw_76 : Cond.code mt_76.1 mt_76.2.1 mt_76.2.2.1 mt_76.2.2.2.1 ∈ am_ws := List.mem_filter.mpr ⟨List.mem_of_getElem? (i := 323) rfl, rfl⟩
set_option maxRecDepth 100000 in
theorem cw_77 : Cond.code mt_77.1 mt_77.2.1 mt_77.2.2.1 mt_77.2.2.2.1 ∈ am_ws := List.mem_filter.mpr ⟨List.mem_of_getElem? (i := 674) rfl, rfl⟩
set_option maxRecDepth 100000 in
theorem cw_78 : Cond.code mt_78.1 mt_78.2.1 mt_78.2.2.1 mt_78.2.2.2.1 ∈ am_ws := List.mem_filter.mpr ⟨List.mem_of_getElem? (i := 716) rfl, rfl⟩
set_option maxRecDepth 100000 in
theorem cw_79 : Cond.code mt_79.1 mt_79.2.1 mt_79.2.2.1 mt_79.2.2.2.1 ∈ am_ws := List.mem_filter.mpr ⟨List.mem_of_getElem? (i := 720) rfl, rfl⟩
set_option maxRecDepth 100000 in
theorem cw_80 : Cond.code mt_80.1 mt_80.2.1 mt_80.2.2.1 mt_80.2.2.2.1 ∈ am_ws := List.mem_filter.mpr ⟨List.mem_of_getElem? (i := 724) rfl, rfl⟩
set_option maxRecDepth 100000 in
theorem cw_81 : Cond.code mt_81.1 mt_81.2.1 mt_81.2.2.1 mt_81.2.2.2.1 ∈ am_ws := List.mem_filter.mpr ⟨List.mem_of_getElem? (i := 728) rfl, rfl⟩
set_option maxRecDepth 100000 in
theorem cw_82 : Cond.code mt_82.1 mt_82.2.1 mt_82.2.2.1 mt_82.2.2.2.1 ∈ am_ws := List.mem_filter.mpr ⟨List.mem_of_getElem? (i := 733) rfl, rfl⟩
set_option maxRecDepth 100000 in
theorem cw_83 : Cond.code mt_83.1 mt_83.2.1 mt_83.2.2.1 mt_83.2.2.2.1 ∈ am_ws := List.mem_filter.mpr ⟨List.mem_of_getElem? (i := 317) rfl, rfl⟩
set_option maxRecDepth 100000 in
theorem cw_84 : Cond.code mt_84.1 mt_84.2.1 mt_84.2.2.1 mt_84.2.2.2.1 ∈ am_ws := List.mem_filter.mpr ⟨List.mem_of_getElem? (i := 650) rfl, rfl⟩
set_option maxRecDepth 100000 in
theorem cw_85 : Cond.code mt_85.1 mt_85.2.1 mt_85.2.2.1 mt_85.2.2.2.1 ∈ am_ws := List.mem_filter.mpr ⟨List.mem_of_getElem? (i := 708) rfl, rfl⟩
set_option maxRecDepth 100000 in
theorem cw_86 : Cond.code mt_86.1 mt_86.2.1 mt_86.2.2.1 mt_86.2.2.2.1 ∈ am_ws := List.mem_filter.mpr ⟨List.mem_of_getElem? (i := 654) rfl, rfl⟩
set_option maxRecDepth 100000 in
theorem cw_87 : Cond.code mt_87.1 mt_87.2.1 mt_87.2.2.1 mt_87.2.2.2.1 ∈ am_ws := List.mem_filter.mpr ⟨List.mem_of_getElem? (i := 658) rfl, rfl⟩
set_option maxRecDepth 100000 in
theorem cw_88 : Cond.code mt_88.1 mt_88.2.1 mt_88.2.2.1 mt_88.2.2.2.1 ∈ am_ws := List.mem_filter.mpr ⟨List.mem_of_getElem? (i := 662) rfl, rfl⟩
set_option maxRecDepth 100000 in
theorem cw_89 : Cond.code mt_89.1 mt_89.2.1 mt_89.2.2.1 mt_89.2.2.2.1 ∈ am_ws := List.mem_filter.mpr ⟨List.mem_of_getElem? (i := 670) rfl, rfl⟩
set_option maxRecDepth 100000 in
theorem cw_90 : Cond.code mt_90.1 mt_90.2.1 mt_90.2.2.1 mt_90.2.2.2.1 ∈ am_ws := List.mem_filter.mpr ⟨List.mem_of_getElem? (i := 678) rfl, rfl⟩
set_option maxRecDepth 100000 in
theorem cw_91 : Cond.code mt_91.1 mt_91.2.1 mt_91.2.2.1 mt_91.2.2.2.1 ∈ am_ws := List.mem_filter.mpr ⟨List.mem_of_getElem? (i := 682) rfl, rfl⟩
set_option maxRecDepth 100000 in
theorem cw_92 : Cond.code mt_92.1 mt_92.2.1 mt_92.2.2.1 mt_92.2.2.2.1 ∈ am_ws := List.mem_filter.mpr ⟨List.mem_of_getElem? (i := 690) rfl, rfl⟩
set_option maxRecDepth 100000 in
theorem cw_93 : Cond.code mt_93.1 mt_93.2.1 mt_93.2.2.1 mt_93.2.2.2.1 ∈ am_ws := List.mem_filter.mpr ⟨List.mem_of_getElem? (i := 686) rfl, rfl⟩
set_option maxRecDepth 100000 in
theorem cw_94 : Cond.code mt_94.1 mt_94.2.1 mt_94.2.2.1 mt_94.2.2.2.1 ∈ am_ws := List.mem_filter.mpr ⟨List.mem_of_getElem? (i := 704) rfl, rfl⟩
set_option maxRecDepth 100000 in
theorem cw_95 : Cond.code mt_95.1 mt_95.2.1 mt_95.2.2.1 mt_95.2.2.2.1 ∈ am_ws := List.mem_filter.mpr ⟨List.mem_of_getElem? (i := 694) rfl, rfl⟩
set_option maxRecDepth 100000 in
theorem cw_96 : Cond.code mt_96.1 mt_96.2.1 mt_96.2.2.1 mt_96.2.2.2.1 ∈ am_ws := List.mem_filter.mpr ⟨List.mem_of_getElem? (i := 666) rfl, rfl⟩
set_option maxRecDepth 100000 in
theorem cw_97 : Cond.code mt_97.1 mt_97.2.1 mt_97.2.2.1 mt_97.2.2.2.1 ∈ am_ws := List.mem_filter.mpr ⟨List.mem_of_getElem? (i := 131) rfl, rfl⟩
set_option maxRecDepth 100000 in
theorem cw_98 : Cond.code mt_98.1 mt_98.2.1 mt_98.2.2.1 mt_98.2.2.2.1 ∈ am_ws := List.mem_filter.mpr ⟨List.mem_of_getElem? (i := 521) rfl, rfl⟩
set_option maxRecDepth 100000 in
theorem cw_99 : Cond.code mt_99.1 mt_99.2.1 mt_99.2.2.1 mt_99.2.2.2.1 ∈ am_ws := List.mem_filter.mpr ⟨List.mem_of_getElem? (i := 525) rfl, rfl⟩
set_option maxRecDepth 100000 in
theorem cw_100 : Cond.code mt_100.1 mt_100.2.1 mt_100.2.2.1 mt_100.2.2.2.1 ∈ am_ws := List.mem_filter.mpr ⟨List.mem_of_getElem? (i := 542) rfl, rfl⟩
set_option maxRecDepth 100000 in
theorem cw_101 : Cond.code mt_101.1 mt_101.2.1 mt_101.2.2.1 mt_101.2.2.2.1 ∈ am_ws := List.mem_filter.mpr ⟨List.mem_of_getElem? (i := 546) rfl, rfl⟩
set_option maxRecDepth 100000 in
theorem cw_102 : Cond.code mt_102.1 mt_102.2.1 mt_102.2.2.1 mt_102.2.2.2.1 ∈ am_ws := List.mem_filter.mpr ⟨List.mem_of_getElem? (i := 509) rfl, rfl⟩
set_option maxRecDepth 100000 in
theorem cw_103 : Cond.code mt_103.1 mt_103.2.1 mt_103.2.2.1 mt_103.2.2.2.1 ∈ am_ws := List.mem_filter.mpr ⟨List.mem_of_getElem? (i := 516) rfl, rfl⟩
set_option maxRecDepth 100000 in
theorem cw_104 : Cond.code mt_104.1 mt_104.2.1 mt_104.2.2.1 mt_104.2.2.2.1 ∈ am_ws := List.mem_filter.mpr ⟨List.mem_of_getElem? (i := 611) rfl, rfl⟩
set_option maxRecDepth 100000 in
theorem cw_105 : Cond.code mt_105.1 mt_105.2.1 mt_105.2.2.1 mt_105.2.2.2.1 ∈ am_ws := List.mem_filter.mpr ⟨List.mem_of_getElem? (i := 615) rfl, rfl⟩
set_option maxRecDepth 100000 in
theorem cw_106 : Cond.code mt_106.1 mt_106.2.1 mt_106.2.2.1 mt_106.2.2.2.1 ∈ am_ws := List.mem_filter.mpr ⟨List.mem_of_getElem? (i := 125) rfl, rfl⟩
set_option maxRecDepth 100000 in
theorem cw_107 : Cond.code mt_107.1 mt_107.2.1 mt_107.2.2.1 mt_107.2.2.2.1 ∈ am_ws := List.mem_filter.mpr ⟨List.mem_of_getElem? (i := 422) rfl, rfl⟩
set_option maxRecDepth 100000 in
theorem cw_108 : Cond.code mt_108.1 mt_108.2.1 mt_108.2.2.1 mt_108.2.2.2.1 ∈ am_ws := List.mem_filter.mpr ⟨List.mem_of_getElem? (i := 418) rfl, rfl⟩
set_option maxRecDepth 100000 in
theorem cw_109 : Cond.code mt_109.1 mt_109.2.1 mt_109.2.2.1 mt_109.2.2.2.1 ∈ am_ws := List.mem_filter.mpr ⟨List.mem_of_getElem? (i := 429) rfl, rfl⟩
set_option maxRecDepth 100000 in
theorem cw_110 : Cond.code mt_110.1 mt_110.2.1 mt_110.2.2.1 mt_110.2.2.2.1 ∈ am_ws := List.mem_filter.mpr ⟨List.mem_of_getElem? (i := 582) rfl, rfl⟩
set_option maxRecDepth 100000 in
theorem cw_111 : Cond.code mt_111.1 mt_111.2.1 mt_111.2.2.1 mt_111.2.2.2.1 ∈ am_ws := List.mem_filter.mpr ⟨List.mem_of_getElem? (i := 595) rfl, rfl⟩
set_option maxRecDepth 100000 in
theorem cw_112 : Cond.code mt_112.1 mt_112.2.1 mt_112.2.2.1 mt_112.2.2.2.1 ∈ am_ws := List.mem_filter.mpr ⟨List.mem_of_getElem? (i := 599) rfl, rfl⟩
set_option maxRecDepth 100000 in
theorem cw_113 : Cond.code mt_113.1 mt_113.2.1 mt_113.2.2.1 mt_113.2.2.2.1 ∈ am_ws := List.mem_filter.mpr ⟨List.mem_of_getElem? (i := 274) rfl, rfl⟩
set_option maxRecDepth 100000 in
theorem cw_114 : Cond.code mt_114.1 mt_114.2.1 mt_114.2.2.1 mt_114.2.2.2.1 ∈ am_ws := List.mem_filter.mpr ⟨List.mem_of_getElem? (i := 414) rfl, rfl⟩
set_option maxRecDepth 100000 in
theorem cw_115 : Cond.code mt_115.1 mt_115.2.1 mt_115.2.2.1 mt_115.2.2.2.1 ∈ am_ws := List.mem_filter.mpr ⟨List.mem_of_getElem? (i := 441) rfl, rfl⟩
set_option maxRecDepth 100000 in
theorem cw_116 : Cond.code mt_116.1 mt_116.2.1 mt_116.2.2.1 mt_116.2.2.2.1 ∈ am_ws := List.mem_filter.mpr ⟨List.mem_of_getElem? (i := 502) rfl, rfl⟩
set_option maxRecDepth 100000 in
theorem cw_117 : Cond.code mt_117.1 mt_117.2.1 mt_117.2.2.1 mt_117.2.2.2.1 ∈ am_ws := List.mem_filter.mpr ⟨List.mem_of_getElem? (i := 530) rfl, rfl⟩
set_option maxRecDepth 100000 in
theorem cw_118 : Cond.code mt_118.1 mt_118.2.1 mt_118.2.2.1 mt_118.2.2.2.1 ∈ am_ws := List.mem_filter.mpr ⟨List.mem_of_getElem? (i := 534) rfl, rfl⟩
set_option maxRecDepth 100000 in
theorem cw_119 : Cond.code mt_119.1 mt_119.2.1 mt_119.2.2.1 mt_119.2.2.2.1 ∈ am_ws := List.mem_filter.mpr ⟨List.mem_of_getElem? (i := 552) rfl, rfl⟩
set_option maxRecDepth 100000 in
theorem cw_120 : Cond.code mt_120.1 mt_120.2.1 mt_120.2.2.1 mt_120.2.2.2.1 ∈ am_ws := List.mem_filter.mpr ⟨List.mem_of_getElem? (i := 557) rfl, rfl⟩
set_option maxRecDepth 100000 in
theorem cw_121 : Cond.code mt_121.1 mt_121.2.1 mt_121.2.2.1 mt_121.2.2.2.1 ∈ am_ws := List.mem_filter.mpr ⟨List.mem_of_getElem? (i := 563) rfl, rfl⟩
set_option maxRecDepth 100000 in
theorem cw_122 : Cond.code mt_122.1 mt_122.2.1 mt_122.2.2.1 mt_122.2.2.2.1 ∈ am_ws := List.mem_filter.mpr ⟨List.mem_of_getElem? (i := 572) rfl, rfl⟩
set_option maxRecDepth 100000 in
theorem cw_123 : Cond.code mt_123.1 mt_123.2.1 mt_123.2.2.1 mt_123.2.2.2.1 ∈ am_ws := List.mem_filter.mpr ⟨List.mem_of_getElem? (i := 577) rfl, rfl⟩
set_option maxRecDepth 100000 in
theorem cw_124 : Cond.code mt_124.1 mt_124.2.1 mt_124.2.2.1 mt_124.2.2.2.1 ∈ am_ws := List.mem_filter.mpr ⟨List.mem_of_getElem? (i := 104) rfl, rfl⟩
set_option maxRecDepth 100000 in
theorem cw_125 : Cond.code mt_125.1 mt_125.2.1 mt_125.2.2.1 mt_125.2.2.2.1 ∈ am_ws := List.mem_filter.mpr ⟨List.mem_of_getElem? (i := 403) rfl, rfl⟩
set_option maxRecDepth 100000 in
theorem cw_126 : Cond.code mt_126.1 mt_126.2.1 mt_126.2.2.1 mt_126.2.2.2.1 ∈ am_ws := List.mem_filter.mpr ⟨List.mem_of_getElem? (i := 406) rfl, rfl⟩
set_option maxRecDepth 100000 in
theorem cw_127 : Cond.code mt_127.1 mt_127.2.1 mt_127.2.2.1 mt_127.2.2.2.1 ∈ am_ws := List.mem_filter.mpr ⟨List.mem_of_getElem? (i := 364) rfl, rfl⟩
set_option maxRecDepth 100000 in
theorem cw_128 : Cond.code mt_128.1 mt_128.2.1 mt_128.2.2.1 mt_128.2.2.2.1 ∈ am_ws := List.mem_filter.mpr ⟨List.mem_of_getElem? (i := 604) rfl, rfl⟩
set_option maxRecDepth 100000 in
theorem cw_129 : Cond.code mt_129.1 mt_129.2.1 mt_129.2.2.1 mt_129.2.2.2.1 ∈ am_ws := List.mem_filter.mpr ⟨List.mem_of_getElem? (i := 620) rfl, rfl⟩
set_option maxRecDepth 100000 in
theorem cw_130 : Cond.code mt_130.1 mt_130.2.1 mt_130.2.2.1 mt_130.2.2.2.1 ∈ am_ws := List.mem_filter.mpr ⟨List.mem_of_getElem? (i := 608) rfl, rfl⟩
set_option maxRecDepth 100000 in
theorem cw_131 : Cond.code mt_131.1 mt_131.2.1 mt_131.2.2.1 mt_131.2.2.2.1 ∈ am_ws := List.mem_filter.mpr ⟨List.mem_of_getElem? (i := 642) rfl, rfl⟩
set_option maxRecDepth 100000 in
theorem cw_132 : Cond.code mt_132.1 mt_132.2.1 mt_132.2.2.1 mt_132.2.2.2.1 ∈ am_ws := List.mem_filter.mpr ⟨List.mem_of_getElem? (i := 282) rfl, rfl⟩
set_option maxRecDepth 100000 in
theorem cw_133 : Cond.code mt_133.1 mt_133.2.1 mt_133.2.2.1 mt_133.2.2.2.1 ∈ am_ws := List.mem_filter.mpr ⟨List.mem_of_getElem? (i := 433) rfl, rfl⟩
set_option maxRecDepth 100000 in
theorem cw_134 : Cond.code mt_134.1 mt_134.2.1 mt_134.2.2.1 mt_134.2.2.2.1 ∈ am_ws := List.mem_filter.mpr ⟨List.mem_of_getElem? (i := 437) rfl, rfl⟩
set_option maxRecDepth 100000 in
theorem cw_135 : Cond.code mt_135.1 mt_135.2.1 mt_135.2.2.1 mt_135.2.2.2.1 ∈ am_ws := List.mem_filter.mpr ⟨List.mem_of_getElem? (i := 445) rfl, rfl⟩
set_option maxRecDepth 100000 in
theorem cw_136 : Cond.code mt_136.1 mt_136.2.1 mt_136.2.2.1 mt_136.2.2.2.1 ∈ am_ws := List.mem_filter.mpr ⟨List.mem_of_getElem? (i := 450) rfl, rfl⟩
set_option maxRecDepth 100000 in
theorem cw_137 : Cond.code mt_137.1 mt_137.2.1 mt_137.2.2.1 mt_137.2.2.2.1 ∈ am_ws := List.mem_filter.mpr ⟨List.mem_of_getElem? (i := 506) rfl, rfl⟩
set_option maxRecDepth 100000 in
theorem cw_138 : Cond.code mt_138.1 mt_138.2.1 mt_138.2.2.1 mt_138.2.2.2.1 ∈ am_ws := List.mem_filter.mpr ⟨List.mem_of_getElem? (i := 513) rfl, rfl⟩
set_option maxRecDepth 100000 in
theorem cw_139 : Cond.code mt_139.1 mt_139.2.1 mt_139.2.2.1 mt_139.2.2.2.1 ∈ am_ws := List.mem_filter.mpr ⟨List.mem_of_getElem? (i := 567) rfl, rfl⟩
set_option maxRecDepth 100000 in
theorem cw_140 : Cond.code mt_140.1 mt_140.2.1 mt_140.2.2.1 mt_140.2.2.2.1 ∈ am_ws := List.mem_filter.mpr ⟨List.mem_of_getElem? (i := 454) rfl, rfl⟩
set_option maxRecDepth 100000 in
theorem cw_141 : Cond.code mt_141.1 mt_141.2.1 mt_141.2.2.1 mt_141.2.2.2.1 ∈ am_ws := List.mem_filter.mpr ⟨List.mem_of_getElem? (i := 458) rfl, rfl⟩
set_option maxRecDepth 100000 in
theorem cw_142 : Cond.code mt_142.1 mt_142.2.1 mt_142.2.2.1 mt_142.2.2.2.1 ∈ am_ws := List.mem_filter.mpr ⟨List.mem_of_getElem? (i := 464) rfl, rfl⟩
set_option maxRecDepth 100000 in
theorem cw_143 : Cond.code mt_143.1 mt_143.2.1 mt_143.2.2.1 mt_143.2.2.2.1 ∈ am_ws := List.mem_filter.mpr ⟨List.mem_of_getElem? (i := 468) rfl, rfl⟩
set_option maxRecDepth 100000 in
theorem cw_144 : Cond.code mt_144.1 mt_144.2.1 mt_144.2.2.1 mt_144.2.2.2.1 ∈ am_ws := List.mem_filter.mpr ⟨List.mem_of_getElem? (i := 471) rfl, rfl⟩
set_option maxRecDepth 100000 in
theorem cw_145 : Cond.code mt_145.1 mt_145.2.1 mt_145.2.2.1 mt_145.2.2.2.1 ∈ am_ws := List.mem_filter.mpr ⟨List.mem_of_getElem? (i := 474) rfl, rfl⟩
set_option maxRecDepth 100000 in
theorem cw_146 : Cond.code mt_146.1 mt_146.2.1 mt_146.2.2.1 mt_146.2.2.2.1 ∈ am_ws := List.mem_filter.mpr ⟨List.mem_of_getElem? (i := 479) rfl, rfl⟩
theorem cw_all : ∀ (mid : Nat) (q : am_M), 1 ≤ mid → at_tab[mid]? = some q → Cond.code q.1 q.2.1 q.2.2.1 q.2.2.2.1 ∈ am_ws := by
  intro mid q h1 h
  match mid, h1, h with
  | 1, _, h => cases h; exact cw_1
  | 2, _, h => cases h; exact cw_2
  | 3, _, h => cases h; exact cw_3
  | 4, _, h => cases h; exact cw_4
  | 5, _, h => cases h; exact cw_5
  | 6, _, h => cases h; exact cw_6
  | 7, _, h => cases h; exact cw_7
  | 8, _, h => cases h; exact cw_8
  | 9, _, h => cases h; exact cw_9
  | 10, _, h => cases h; exact cw_10
  | 11, _, h => cases h; exact cw_11
  | 12, _, h => cases h; exact cw_12
  | 13, _, h => cases h; exact cw_13
  | 14, _, h => cases h; exact cw_14
  | 15, _, h => cases h; exact cw_15
  | 16, _, h => cases h; exact cw_16
  | 17, _, h => cases h; exact cw_17
  | 18, _, h => cases h; exact cw_18
  | 19, _, h => cases h; exact cw_19
  | 20, _, h => cases h; exact cw_20
  | 21, _, h => cases h; exact cw_21
  | 22, _, h => cases h; exact cw_22
  | 23, _, h => cases h; exact cw_23
  | 24, _, h => cases h; exact cw_24
  | 25, _, h => cases h; exact cw_25
  | 26, _, h => cases h; exact cw_26
  | 27, _, h => cases h; exact cw_27
  | 28, _, h => cases h; exact cw_28
  | 29, _, h => cases h; exact cw_29
  | 30, _, h => cases h; exact cw_30
  | 31, _, h => cases h; exact cw_31
  | 32, _, h => cases h; exact cw_32
  | 33, _, h => cases h; exact cw_33
  | 34, _, h => cases h; exact cw_34
  | 35, _, h => cases h; exact cw_35
  | 36, _, h => cases h; exact cw_36
  | 37, _, h => cases h; exact cw_37
  | 38, _, h => cases h; exact cw_38
  | 39, _, h => cases h; exact cw_39
  | 40, _, h => cases h; exact cw_40
  | 41, _, h => cases h; exact cw_41
  | 42, _, h => cases h; exact cw_42
  | 43, _, h => cases h; exact cw_43
  | 44, _, h => cases h; exact cw_44
  | 45, _, h => cases h; exact cw_45
  | 46, _, h => cases h; exact cw_46
  | 47, _, h => cases h; exact cw_47
  | 48, _, h => cases h; exact cw_48
  | 49, _, h => cases h; exact cw_49
  | 50, _, h => cases h; exact cw_50
  | 51, _, h => cases h; exact cw_51
  | 52, _, h => cases h; exact cw_52
  | 53, _, h => cases h; exact cw_53
  | 54, _, h => cases h; exact cw_54
  | 55, _, h => cases h; exact cw_55
  | 56, _, h => cases h; exact cw_56
  | 57, _, h => cases h; exact cw_57
  | 58, _, h => cases h; exact cw_58
  | 59, _, h => cases h; exact cw_59
  | 60, _, h => cases h; exact cw_60
  | 61, _, h => cases h; exact cw_61
  | 62, _, h => cases h; exact cw_62
  | 63, _, h => cases h; exact cw_63
  | 64, _, h => cases h; exact cw_64
  | 65, _, h => cases h; exact cw_65
  | 66, _, h => cases h; exact cw_66
  | 67, _, h => cases h; exact cw_67
  | 68, _, h => cases h; exact cw_68
  | 69, _, h => cases h; exact cw_69
  | 70, _, h => cases h; exact cw_70
  | 71, _, h => cases h; exact cw_71
  | 72, _, h => cases h; exact cw_72
  | 73, _, h => cases h; exact cw_73
  | 74, _, h => cases h; exact cw_74
  | 75, _, h => cases h; exact cw_75
  | 76, _, h => cases h; exact cw_76
  | 77, _, h => cases h; exact cw_77
  | 78, _, h => cases h; exact cw_78
  | 79, _, h => cases h; exact cw_79
  | 80, _, h => cases h; exact cw_80
  | 81, _, h => cases h; exact cw_81
  | 82, _, h => cases h; exact cw_82
  | 83, _, h => cases h; exact cw_83
  | 84, _, h => cases h; exact cw_84
  | 85, _, h => cases h; exact cw_85
  | 86, _, h => cases h; exact cw_86
  | 87, _, h => cases h; exact cw_87
  | 88, _, h => cases h; exact cw_88
  | 89, _, h => cases h; exact cw_89
  | 90, _, h => cases h; exact cw_90
  | 91, _, h => cases h; exact cw_91
  | 92, _, h => cases h; exact cw_92
  | 93, _, h => cases h; exact cw_93
  | 94, _, h => cases h; exact cw_94
  | 95, _, h => cases h; exact cw_95
  | 96, _, h => cases h; exact cw_96
  | 97, _, h => cases h; exact cw_97
  | 98, _, h => cases h; exact cw_98
  | 99, _, h => cases h; exact cw_99
  | 100, _, h => cases h; exact cw_100
  | 101, _, h => cases h; exact cw_101
  | 102, _, h => cases h; exact cw_102
  | 103, _, h => cases h; exact cw_103
  | 104, _, h => cases h; exact cw_104
  | 105, _, h => cases h; exact cw_105
  | 106, _, h => cases h; exact cw_106
  | 107, _, h => cases h; exact cw_107
  | 108, _, h => cases h; exact cw_108
  | 109, _, h => cases h; exact cw_109
  | 110, _, h => cases h; exact cw_110
  | 111, _, h => cases h; exact cw_111
  | 112, _, h => cases h; exact cw_112
  | 113, _, h => cases h; exact cw_113
  | 114, _, h => cases h; exact cw_114
  | 115, _, h => cases h; exact cw_115
  | 116, _, h => cases h; exact cw_116
  | 117, _, h => cases h; exact cw_117
  | 118, _, h => cases h; exact cw_118
  | 119, _, h => cases h; exact cw_119
  | 120, _, h => cases h; exact cw_120
  | 121, _, h => cases h; exact cw_121
  | 122, _, h => cases h; exact cw_122
  | 123, _, h => cases h; exact cw_123
  | 124, _, h => cases h; exact cw_124
  | 125, _, h => cases h; exact cw_125
  | 126, _, h => cases h; exact cw_126
  | 127, _, h => cases h; exact cw_127
  | 128, _, h => cases h; exact cw_128
  | 129, _, h => cases h; exact cw_129
  | 130, _, h => cases h; exact cw_130
  | 131, _, h => cases h; exact cw_131
  | 132, _, h => cases h; exact cw_132
  | 133, _, h => cases h; exact cw_133
  | 134, _, h => cases h; exact cw_134
  | 135, _, h => cases h; exact cw_135
  | 136, _, h => cases h; exact cw_136
  | 137, _, h => cases h; exact cw_137
  | 138, _, h => cases h; exact cw_138
  | 139, _, h => cases h; exact cw_139
  | 140, _, h => cases h; exact cw_140
  | 141, _, h => cases h; exact cw_141
  | 142, _, h => cases h; exact cw_142
  | 143, _, h => cases h; exact cw_143
  | 144, _, h => cases h; exact cw_144
  | 145, _, h => cases h; exact cw_145
  | 146, _, h => cases h; exact cw_146
  | k + 147, _, h => simp [at_tab] at h

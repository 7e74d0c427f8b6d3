/-! words of the law, by their places -/
theorem q_85 : (.initialized RL : Cond) ∈ TT := tt_of 85 (by decide +kernel) (by decide +kernel)
theorem q_108 : (.classLink RL 8 RX8 : Cond) ∈ TT := tt_of 108 (by decide +kernel) (by decide +kernel)
theorem q_109 : (.instantiable RX8 15 : Cond) ∈ TT := tt_of 109 (by decide +kernel) (by decide +kernel)
theorem q_110 : (.methodLink RL 111 yX8_init : Cond) ∈ TT := tt_of 110 (by decide +kernel) (by decide +kernel)
theorem q_463 : (.methodLink RL 115 yX8_feed : Cond) ∈ TT := tt_of 463 (by decide +kernel) (by decide +kernel)
theorem q_471 : (.methodLink RL 120 yX8_load : Cond) ∈ TT := tt_of 471 (by decide +kernel) (by decide +kernel)
theorem q_624 : (.methodLink RL 124 yX8_errorPosition : Cond) ∈ TT := tt_of 624 (by decide +kernel) (by decide +kernel)
theorem q_628 : (.methodLink RL 129 yX8_districtCount : Cond) ∈ TT := tt_of 628 (by decide +kernel) (by decide +kernel)
theorem q_632 : (.methodLink RL 133 yX8_projectCount : Cond) ∈ TT := tt_of 632 (by decide +kernel) (by decide +kernel)
theorem q_636 : (.methodLink RL 137 yX8_voterCount : Cond) ∈ TT := tt_of 636 (by decide +kernel) (by decide +kernel)
theorem q_640 : (.methodLink RL 141 yX8_undoCount : Cond) ∈ TT := tt_of 640 (by decide +kernel) (by decide +kernel)
theorem q_644 : (.methodLink RL 145 yX8_districtNamed : Cond) ∈ TT := tt_of 644 (by decide +kernel) (by decide +kernel)
theorem q_649 : (.methodLink RL 149 yX8_projectNamed : Cond) ∈ TT := tt_of 649 (by decide +kernel) (by decide +kernel)
theorem q_653 : (.methodLink RL 177 yX8_getSetting : Cond) ∈ TT := tt_of 653 (by decide +kernel) (by decide +kernel)
theorem q_658 : (.methodLink RL 318 yX8_richest : Cond) ∈ TT := tt_of 658 (by decide +kernel) (by decide +kernel)
theorem q_772 : (.methodLink RL 221 yX8_raises : Cond) ∈ TT := tt_of 772 (by decide +kernel) (by decide +kernel)
theorem q_776 : (.methodLink RL 225 yX8_completed : Cond) ∈ TT := tt_of 776 (by decide +kernel) (by decide +kernel)
theorem q_790 : (.methodLink RL 194 yX8_funded : Cond) ∈ TT := tt_of 790 (by decide +kernel) (by decide +kernel)
theorem q_839 : (.methodLink RL 198 yX8_fundedAt : Cond) ∈ TT := tt_of 839 (by decide +kernel) (by decide +kernel)
theorem q_858 : (.methodLink RL 229 yX8_totalCost : Cond) ∈ TT := tt_of 858 (by decide +kernel) (by decide +kernel)
theorem q_866 : (.methodLink RL 233 yX8_welfare : Cond) ∈ TT := tt_of 866 (by decide +kernel) (by decide +kernel)
theorem q_876 : (.methodLink RL 266 yX8_common : Cond) ∈ TT := tt_of 876 (by decide +kernel) (by decide +kernel)
theorem q_880 : (.methodLink RL 274 yX8_loss : Cond) ∈ TT := tt_of 880 (by decide +kernel) (by decide +kernel)
theorem q_884 : (.methodLink RL 240 yX8_worstOff : Cond) ∈ TT := tt_of 884 (by decide +kernel) (by decide +kernel)
theorem q_892 : (.methodLink RL 270 yX8_spread : Cond) ∈ TT := tt_of 892 (by decide +kernel) (by decide +kernel)
theorem q_900 : (.methodLink RL 244 yX8_leftOut : Cond) ∈ TT := tt_of 900 (by decide +kernel) (by decide +kernel)
theorem q_908 : (.methodLink RL 251 yX8_unjust : Cond) ∈ TT := tt_of 908 (by decide +kernel) (by decide +kernel)
theorem q_927 : (.methodLink RL 261 yX8_canBePaid : Cond) ∈ TT := tt_of 927 (by decide +kernel) (by decide +kernel)
theorem q_932 : (.methodLink RL 308 yX8_cheapestSet : Cond) ∈ TT := tt_of 932 (by decide +kernel) (by decide +kernel)
theorem q_940 : (.methodLink RL 322 yX8_setBudget : Cond) ∈ TT := tt_of 940 (by decide +kernel) (by decide +kernel)
theorem q_961 : (.methodLink RL 326 yX8_setCost : Cond) ∈ TT := tt_of 961 (by decide +kernel) (by decide +kernel)
theorem q_965 : (.methodLink RL 330 yX8_setWeight : Cond) ∈ TT := tt_of 965 (by decide +kernel) (by decide +kernel)
theorem q_969 : (.methodLink RL 334 yX8_setMember : Cond) ∈ TT := tt_of 969 (by decide +kernel) (by decide +kernel)
theorem q_976 : (.methodLink RL 339 yX8_setApproval : Cond) ∈ TT := tt_of 976 (by decide +kernel) (by decide +kernel)
theorem q_980 : (.methodLink RL 343 yX8_setSetting : Cond) ∈ TT := tt_of 980 (by decide +kernel) (by decide +kernel)
theorem q_986 : (.methodLink RL 347 yX8_undo : Cond) ∈ TT := tt_of 986 (by decide +kernel) (by decide +kernel)
theorem q_994 : (.methodLink RL 153 yL_budgetOf : Cond) ∈ TT := tt_of 994 (by decide +kernel) (by decide +kernel)
theorem q_995 : (.static yL_budgetOf : Cond) ∈ TT := tt_of 995 (by decide +kernel) (by decide +kernel)
theorem q_996 : (.codeWith yL_budgetOf cL_budgetOf 4 (some .int) [(0, 9, 12, 13)] : Cond) ∈ TT := tt_of 996 (by decide +kernel) (by decide +kernel)
theorem q_997 : (.classLink RL 13 "java/lang/IndexOutOfBoundsException" : Cond) ∈ TT := tt_of 997 (by decide +kernel) (by decide +kernel)
theorem q_998 : (.methodLink RL 7 yX8_budgetOf : Cond) ∈ TT := tt_of 998 (by decide +kernel) (by decide +kernel)
theorem q_1066 : (.methodLink RL 162 yL_costOf : Cond) ∈ TT := tt_of 1066 (by decide +kernel) (by decide +kernel)
theorem q_1067 : (.static yL_costOf : Cond) ∈ TT := tt_of 1067 (by decide +kernel) (by decide +kernel)
theorem q_1068 : (.codeWith yL_costOf cL_costOf 4 (some .int) [(0, 9, 12, 13)] : Cond) ∈ TT := tt_of 1068 (by decide +kernel) (by decide +kernel)
theorem q_1069 : (.methodLink RL 15 yX8_costOf : Cond) ∈ TT := tt_of 1069 (by decide +kernel) (by decide +kernel)
theorem q_1073 : (.methodLink RL 165 yL_districtsOf : Cond) ∈ TT := tt_of 1073 (by decide +kernel) (by decide +kernel)
theorem q_1074 : (.static yL_districtsOf : Cond) ∈ TT := tt_of 1074 (by decide +kernel) (by decide +kernel)
theorem q_1075 : (.codeWith yL_districtsOf cL_districtsOf 4 (some .int) [(0, 9, 12, 13)] : Cond) ∈ TT := tt_of 1075 (by decide +kernel) (by decide +kernel)
theorem q_1076 : (.methodLink RL 18 yX8_districtsOf : Cond) ∈ TT := tt_of 1076 (by decide +kernel) (by decide +kernel)
theorem q_1080 : (.methodLink RL 168 yL_memberships : Cond) ∈ TT := tt_of 1080 (by decide +kernel) (by decide +kernel)
theorem q_1081 : (.static yL_memberships : Cond) ∈ TT := tt_of 1081 (by decide +kernel) (by decide +kernel)
theorem q_1082 : (.codeWith yL_memberships cL_memberships 4 (some .int) [(0, 9, 12, 13)] : Cond) ∈ TT := tt_of 1082 (by decide +kernel) (by decide +kernel)
theorem q_1083 : (.methodLink RL 21 yX8_memberships : Cond) ∈ TT := tt_of 1083 (by decide +kernel) (by decide +kernel)
theorem q_1087 : (.methodLink RL 171 yL_approvals : Cond) ∈ TT := tt_of 1087 (by decide +kernel) (by decide +kernel)
theorem q_1088 : (.static yL_approvals : Cond) ∈ TT := tt_of 1088 (by decide +kernel) (by decide +kernel)
theorem q_1089 : (.codeWith yL_approvals cL_approvals 4 (some .int) [(0, 9, 12, 13)] : Cond) ∈ TT := tt_of 1089 (by decide +kernel) (by decide +kernel)
theorem q_1090 : (.methodLink RL 24 yX8_approvals : Cond) ∈ TT := tt_of 1090 (by decide +kernel) (by decide +kernel)
theorem q_1094 : (.methodLink RL 174 yL_weightOf : Cond) ∈ TT := tt_of 1094 (by decide +kernel) (by decide +kernel)
theorem q_1095 : (.static yL_weightOf : Cond) ∈ TT := tt_of 1095 (by decide +kernel) (by decide +kernel)
theorem q_1096 : (.codeWith yL_weightOf cL_weightOf 4 (some .int) [(0, 9, 12, 13)] : Cond) ∈ TT := tt_of 1096 (by decide +kernel) (by decide +kernel)
theorem q_1097 : (.methodLink RL 27 yX8_weightOf : Cond) ∈ TT := tt_of 1097 (by decide +kernel) (by decide +kernel)
theorem q_1101 : (.methodLink RL 181 yL_supporters : Cond) ∈ TT := tt_of 1101 (by decide +kernel) (by decide +kernel)
theorem q_1102 : (.static yL_supporters : Cond) ∈ TT := tt_of 1102 (by decide +kernel) (by decide +kernel)
theorem q_1103 : (.codeWith yL_supporters cL_supporters 4 (some .int) [(0, 9, 12, 13)] : Cond) ∈ TT := tt_of 1103 (by decide +kernel) (by decide +kernel)
theorem q_1104 : (.methodLink RL 30 yX8_supporters : Cond) ∈ TT := tt_of 1104 (by decide +kernel) (by decide +kernel)
theorem q_1108 : (.methodLink RL 184 yL_votesFor : Cond) ∈ TT := tt_of 1108 (by decide +kernel) (by decide +kernel)
theorem q_1109 : (.static yL_votesFor : Cond) ∈ TT := tt_of 1109 (by decide +kernel) (by decide +kernel)
theorem q_1110 : (.codeWith yL_votesFor cL_votesFor 4 (some .int) [(0, 9, 12, 13)] : Cond) ∈ TT := tt_of 1110 (by decide +kernel) (by decide +kernel)
theorem q_1111 : (.methodLink RL 33 yX8_votesFor : Cond) ∈ TT := tt_of 1111 (by decide +kernel) (by decide +kernel)
theorem q_1115 : (.methodLink RL 187 yL_purse : Cond) ∈ TT := tt_of 1115 (by decide +kernel) (by decide +kernel)
theorem q_1116 : (.static yL_purse : Cond) ∈ TT := tt_of 1116 (by decide +kernel) (by decide +kernel)
theorem q_1117 : (.codeWith yL_purse cL_purse 5 (some .int) [(0, 10, 13, 13)] : Cond) ∈ TT := tt_of 1117 (by decide +kernel) (by decide +kernel)
theorem q_1118 : (.methodLink RL 36 yX8_purse : Cond) ∈ TT := tt_of 1118 (by decide +kernel) (by decide +kernel)
theorem q_1123 : (.methodLink RL 191 yL_firstPrice : Cond) ∈ TT := tt_of 1123 (by decide +kernel) (by decide +kernel)
theorem q_1124 : (.static yL_firstPrice : Cond) ∈ TT := tt_of 1124 (by decide +kernel) (by decide +kernel)
theorem q_1125 : (.codeWith yL_firstPrice cL_firstPrice 4 (some .int) [(0, 9, 12, 13)] : Cond) ∈ TT := tt_of 1125 (by decide +kernel) (by decide +kernel)
theorem q_1126 : (.methodLink RL 40 yX8_firstPrice : Cond) ∈ TT := tt_of 1126 (by decide +kernel) (by decide +kernel)
theorem q_1130 : (.methodLink RL 202 yL_priceOf : Cond) ∈ TT := tt_of 1130 (by decide +kernel) (by decide +kernel)
theorem q_1131 : (.static yL_priceOf : Cond) ∈ TT := tt_of 1131 (by decide +kernel) (by decide +kernel)
theorem q_1132 : (.codeWith yL_priceOf cL_priceOf 4 (some .int) [(0, 9, 12, 13)] : Cond) ∈ TT := tt_of 1132 (by decide +kernel) (by decide +kernel)
theorem q_1133 : (.methodLink RL 43 yX8_priceOf : Cond) ∈ TT := tt_of 1133 (by decide +kernel) (by decide +kernel)
theorem q_1141 : (.methodLink RL 205 yL_paidBy : Cond) ∈ TT := tt_of 1141 (by decide +kernel) (by decide +kernel)
theorem q_1142 : (.static yL_paidBy : Cond) ∈ TT := tt_of 1142 (by decide +kernel) (by decide +kernel)
theorem q_1143 : (.codeWith yL_paidBy cL_paidBy 5 (some .int) [(0, 10, 13, 13)] : Cond) ∈ TT := tt_of 1143 (by decide +kernel) (by decide +kernel)
theorem q_1144 : (.methodLink RL 46 yX8_paidBy : Cond) ∈ TT := tt_of 1144 (by decide +kernel) (by decide +kernel)
theorem q_1148 : (.methodLink RL 208 yL_paidFrom : Cond) ∈ TT := tt_of 1148 (by decide +kernel) (by decide +kernel)
theorem q_1149 : (.static yL_paidFrom : Cond) ∈ TT := tt_of 1149 (by decide +kernel) (by decide +kernel)
theorem q_1150 : (.codeWith yL_paidFrom cL_paidFrom 6 (some .int) [(0, 12, 15, 13)] : Cond) ∈ TT := tt_of 1150 (by decide +kernel) (by decide +kernel)
theorem q_1151 : (.methodLink RL 49 yX8_paidFrom : Cond) ∈ TT := tt_of 1151 (by decide +kernel) (by decide +kernel)
theorem q_1155 : (.methodLink RL 212 yL_leftOf : Cond) ∈ TT := tt_of 1155 (by decide +kernel) (by decide +kernel)
theorem q_1156 : (.static yL_leftOf : Cond) ∈ TT := tt_of 1156 (by decide +kernel) (by decide +kernel)
theorem q_1157 : (.codeWith yL_leftOf cL_leftOf 5 (some .int) [(0, 10, 13, 13)] : Cond) ∈ TT := tt_of 1157 (by decide +kernel) (by decide +kernel)
theorem q_1158 : (.methodLink RL 53 yX8_leftOf : Cond) ∈ TT := tt_of 1158 (by decide +kernel) (by decide +kernel)
theorem q_1162 : (.methodLink RL 215 yL_purseLeft : Cond) ∈ TT := tt_of 1162 (by decide +kernel) (by decide +kernel)
theorem q_1163 : (.static yL_purseLeft : Cond) ∈ TT := tt_of 1163 (by decide +kernel) (by decide +kernel)
theorem q_1164 : (.codeWith yL_purseLeft cL_purseLeft 5 (some .int) [(0, 10, 13, 13)] : Cond) ∈ TT := tt_of 1164 (by decide +kernel) (by decide +kernel)
theorem q_1165 : (.methodLink RL 56 yX8_purseLeft : Cond) ∈ TT := tt_of 1165 (by decide +kernel) (by decide +kernel)
theorem q_1169 : (.methodLink RL 218 yL_meansLeft : Cond) ∈ TT := tt_of 1169 (by decide +kernel) (by decide +kernel)
theorem q_1170 : (.static yL_meansLeft : Cond) ∈ TT := tt_of 1170 (by decide +kernel) (by decide +kernel)
theorem q_1171 : (.codeWith yL_meansLeft cL_meansLeft 4 (some .int) [(0, 9, 12, 13)] : Cond) ∈ TT := tt_of 1171 (by decide +kernel) (by decide +kernel)
theorem q_1172 : (.methodLink RL 59 yX8_meansLeft : Cond) ∈ TT := tt_of 1172 (by decide +kernel) (by decide +kernel)
theorem q_1176 : (.methodLink RL 237 yL_satisfaction : Cond) ∈ TT := tt_of 1176 (by decide +kernel) (by decide +kernel)
theorem q_1177 : (.static yL_satisfaction : Cond) ∈ TT := tt_of 1177 (by decide +kernel) (by decide +kernel)
theorem q_1178 : (.codeWith yL_satisfaction cL_satisfaction 5 (some .int) [(0, 10, 13, 13)] : Cond) ∈ TT := tt_of 1178 (by decide +kernel) (by decide +kernel)
theorem q_1179 : (.methodLink RL 62 yX8_satisfaction : Cond) ∈ TT := tt_of 1179 (by decide +kernel) (by decide +kernel)
theorem q_1183 : (.methodLink RL 248 yL_claimOf : Cond) ∈ TT := tt_of 1183 (by decide +kernel) (by decide +kernel)
theorem q_1184 : (.static yL_claimOf : Cond) ∈ TT := tt_of 1184 (by decide +kernel) (by decide +kernel)
theorem q_1185 : (.codeWith yL_claimOf cL_claimOf 5 (some .int) [(0, 10, 13, 13)] : Cond) ∈ TT := tt_of 1185 (by decide +kernel) (by decide +kernel)
theorem q_1186 : (.methodLink RL 65 yX8_claimOf : Cond) ∈ TT := tt_of 1186 (by decide +kernel) (by decide +kernel)
theorem q_1190 : (.methodLink RL 255 yL_changedWithout : Cond) ∈ TT := tt_of 1190 (by decide +kernel) (by decide +kernel)
theorem q_1191 : (.static yL_changedWithout : Cond) ∈ TT := tt_of 1191 (by decide +kernel) (by decide +kernel)
theorem q_1192 : (.codeWith yL_changedWithout cL_changedWithout 4 (some .int) [(0, 9, 12, 13)] : Cond) ∈ TT := tt_of 1192 (by decide +kernel) (by decide +kernel)
theorem q_1193 : (.methodLink RL 68 yX8_changedWithout : Cond) ∈ TT := tt_of 1193 (by decide +kernel) (by decide +kernel)
theorem q_1205 : (.methodLink RL 258 yL_greedyLimit : Cond) ∈ TT := tt_of 1205 (by decide +kernel) (by decide +kernel)
theorem q_1206 : (.static yL_greedyLimit : Cond) ∈ TT := tt_of 1206 (by decide +kernel) (by decide +kernel)
theorem q_1207 : (.codeWith yL_greedyLimit cL_greedyLimit 4 (some .int) [(0, 9, 12, 13)] : Cond) ∈ TT := tt_of 1207 (by decide +kernel) (by decide +kernel)
theorem q_1208 : (.methodLink RL 71 yX8_greedyLimit : Cond) ∈ TT := tt_of 1208 (by decide +kernel) (by decide +kernel)
theorem q_1217 : (.methodLink RL 278 yL_bestWithout : Cond) ∈ TT := tt_of 1217 (by decide +kernel) (by decide +kernel)
theorem q_1218 : (.static yL_bestWithout : Cond) ∈ TT := tt_of 1218 (by decide +kernel) (by decide +kernel)
theorem q_1219 : (.codeWith yL_bestWithout cL_bestWithout 4 (some .int) [(0, 8, 11, 13)] : Cond) ∈ TT := tt_of 1219 (by decide +kernel) (by decide +kernel)
theorem q_1220 : (.methodLink RL 74 yX8_bestWithout : Cond) ∈ TT := tt_of 1220 (by decide +kernel) (by decide +kernel)
theorem q_1224 : (.methodLink RL 281 yL_endowment : Cond) ∈ TT := tt_of 1224 (by decide +kernel) (by decide +kernel)
theorem q_1225 : (.static yL_endowment : Cond) ∈ TT := tt_of 1225 (by decide +kernel) (by decide +kernel)
theorem q_1226 : (.codeWith yL_endowment cL_endowment 4 (some .int) [(0, 9, 12, 13)] : Cond) ∈ TT := tt_of 1226 (by decide +kernel) (by decide +kernel)
theorem q_1227 : (.methodLink RL 78 yX8_endowment : Cond) ∈ TT := tt_of 1227 (by decide +kernel) (by decide +kernel)
theorem q_1232 : (.methodLink RL 284 yL_spentBy : Cond) ∈ TT := tt_of 1232 (by decide +kernel) (by decide +kernel)
theorem q_1233 : (.static yL_spentBy : Cond) ∈ TT := tt_of 1233 (by decide +kernel) (by decide +kernel)
theorem q_1234 : (.codeWith yL_spentBy cL_spentBy 4 (some .int) [(0, 9, 12, 13)] : Cond) ∈ TT := tt_of 1234 (by decide +kernel) (by decide +kernel)
theorem q_1235 : (.methodLink RL 81 yX8_spentBy : Cond) ∈ TT := tt_of 1235 (by decide +kernel) (by decide +kernel)
theorem q_1239 : (.methodLink RL 287 yL_payers : Cond) ∈ TT := tt_of 1239 (by decide +kernel) (by decide +kernel)
theorem q_1240 : (.static yL_payers : Cond) ∈ TT := tt_of 1240 (by decide +kernel) (by decide +kernel)
theorem q_1241 : (.codeWith yL_payers cL_payers 4 (some .int) [(0, 9, 12, 13)] : Cond) ∈ TT := tt_of 1241 (by decide +kernel) (by decide +kernel)
theorem q_1242 : (.methodLink RL 84 yX8_payers : Cond) ∈ TT := tt_of 1242 (by decide +kernel) (by decide +kernel)
theorem q_1246 : (.methodLink RL 290 yL_roundOf : Cond) ∈ TT := tt_of 1246 (by decide +kernel) (by decide +kernel)
theorem q_1247 : (.static yL_roundOf : Cond) ∈ TT := tt_of 1247 (by decide +kernel) (by decide +kernel)
theorem q_1248 : (.codeWith yL_roundOf cL_roundOf 4 (some .int) [(0, 9, 12, 13)] : Cond) ∈ TT := tt_of 1248 (by decide +kernel) (by decide +kernel)
theorem q_1249 : (.methodLink RL 87 yX8_roundOf : Cond) ∈ TT := tt_of 1249 (by decide +kernel) (by decide +kernel)
theorem q_1253 : (.methodLink RL 293 yL_commonSupport : Cond) ∈ TT := tt_of 1253 (by decide +kernel) (by decide +kernel)
theorem q_1254 : (.static yL_commonSupport : Cond) ∈ TT := tt_of 1254 (by decide +kernel) (by decide +kernel)
theorem q_1255 : (.codeWith yL_commonSupport cL_commonSupport 5 (some .int) [(0, 10, 13, 13)] : Cond) ∈ TT := tt_of 1255 (by decide +kernel) (by decide +kernel)
theorem q_1256 : (.methodLink RL 90 yX8_commonSupport : Cond) ∈ TT := tt_of 1256 (by decide +kernel) (by decide +kernel)
theorem q_1260 : (.methodLink RL 296 yL_priceIn : Cond) ∈ TT := tt_of 1260 (by decide +kernel) (by decide +kernel)
theorem q_1261 : (.static yL_priceIn : Cond) ∈ TT := tt_of 1261 (by decide +kernel) (by decide +kernel)
theorem q_1262 : (.codeWith yL_priceIn cL_priceIn 5 (some .int) [(0, 10, 13, 13)] : Cond) ∈ TT := tt_of 1262 (by decide +kernel) (by decide +kernel)
theorem q_1263 : (.methodLink RL 93 yX8_priceIn : Cond) ∈ TT := tt_of 1263 (by decide +kernel) (by decide +kernel)
theorem q_1267 : (.methodLink RL 299 yL_fundedWithBudget : Cond) ∈ TT := tt_of 1267 (by decide +kernel) (by decide +kernel)
theorem q_1268 : (.static yL_fundedWithBudget : Cond) ∈ TT := tt_of 1268 (by decide +kernel) (by decide +kernel)
theorem q_1269 : (.codeWith yL_fundedWithBudget cL_fundedWithBudget 5 (some .int) [(0, 10, 13, 13)] : Cond) ∈ TT := tt_of 1269 (by decide +kernel) (by decide +kernel)
theorem q_1270 : (.methodLink RL 96 yX8_fundedWithBudget : Cond) ∈ TT := tt_of 1270 (by decide +kernel) (by decide +kernel)
theorem q_1274 : (.methodLink RL 302 yL_fundedWithCost : Cond) ∈ TT := tt_of 1274 (by decide +kernel) (by decide +kernel)
theorem q_1275 : (.static yL_fundedWithCost : Cond) ∈ TT := tt_of 1275 (by decide +kernel) (by decide +kernel)
theorem q_1276 : (.codeWith yL_fundedWithCost cL_fundedWithCost 5 (some .int) [(0, 10, 13, 13)] : Cond) ∈ TT := tt_of 1276 (by decide +kernel) (by decide +kernel)
theorem q_1277 : (.methodLink RL 99 yX8_fundedWithCost : Cond) ∈ TT := tt_of 1277 (by decide +kernel) (by decide +kernel)
theorem q_1281 : (.methodLink RL 305 yL_fundedWithout : Cond) ∈ TT := tt_of 1281 (by decide +kernel) (by decide +kernel)
theorem q_1282 : (.static yL_fundedWithout : Cond) ∈ TT := tt_of 1282 (by decide +kernel) (by decide +kernel)
theorem q_1283 : (.codeWith yL_fundedWithout cL_fundedWithout 4 (some .int) [(0, 9, 12, 13)] : Cond) ∈ TT := tt_of 1283 (by decide +kernel) (by decide +kernel)
theorem q_1284 : (.methodLink RL 102 yX8_fundedWithout : Cond) ∈ TT := tt_of 1284 (by decide +kernel) (by decide +kernel)
theorem q_1288 : (.methodLink RL 312 yL_districtWelfare : Cond) ∈ TT := tt_of 1288 (by decide +kernel) (by decide +kernel)
theorem q_1289 : (.static yL_districtWelfare : Cond) ∈ TT := tt_of 1289 (by decide +kernel) (by decide +kernel)
theorem q_1290 : (.codeWith yL_districtWelfare cL_districtWelfare 5 (some .int) [(0, 10, 13, 13)] : Cond) ∈ TT := tt_of 1290 (by decide +kernel) (by decide +kernel)
theorem q_1291 : (.methodLink RL 105 yX8_districtWelfare : Cond) ∈ TT := tt_of 1291 (by decide +kernel) (by decide +kernel)
theorem q_1295 : (.methodLink RL 315 yL_rankOf : Cond) ∈ TT := tt_of 1295 (by decide +kernel) (by decide +kernel)
theorem q_1296 : (.static yL_rankOf : Cond) ∈ TT := tt_of 1296 (by decide +kernel) (by decide +kernel)
theorem q_1297 : (.codeWith yL_rankOf cL_rankOf 5 (some .int) [(0, 10, 13, 13)] : Cond) ∈ TT := tt_of 1297 (by decide +kernel) (by decide +kernel)
theorem q_1298 : (.methodLink RL 108 yX8_rankOf : Cond) ∈ TT := tt_of 1298 (by decide +kernel) (by decide +kernel)
theorem q_1302 : (.classLink RL 112 RX9 : Cond) ∈ TT := tt_of 1302 (by decide +kernel) (by decide +kernel)
theorem q_1303 : (.instantiable RX9 42 : Cond) ∈ TT := tt_of 1303 (by decide +kernel) (by decide +kernel)
theorem q_1304 : (.methodLink RL 114 yX9_init : Cond) ∈ TT := tt_of 1304 (by decide +kernel) (by decide +kernel)
theorem q_1439 : (.methodLink RL 159 yX9_thrown : Cond) ∈ TT := tt_of 1439 (by decide +kernel) (by decide +kernel)
theorem q_1443 : (.methodLink RL 350 yX9_undo : Cond) ∈ TT := tt_of 1443 (by decide +kernel) (by decide +kernel)
theorem q_1447 : (.methodLink RL 144 yX9_undoCount : Cond) ∈ TT := tt_of 1447 (by decide +kernel) (by decide +kernel)
theorem q_1451 : (.methodLink RL 119 yX9_feed : Cond) ∈ TT := tt_of 1451 (by decide +kernel) (by decide +kernel)
theorem q_1459 : (.methodLink RL 128 yX9_errorPosition : Cond) ∈ TT := tt_of 1459 (by decide +kernel) (by decide +kernel)
theorem q_1463 : (.methodLink RL 123 yX9_load : Cond) ∈ TT := tt_of 1463 (by decide +kernel) (by decide +kernel)
theorem q_1559 : (.methodLink RL 132 yX9_districtCount : Cond) ∈ TT := tt_of 1559 (by decide +kernel) (by decide +kernel)
theorem q_1563 : (.methodLink RL 136 yX9_projectCount : Cond) ∈ TT := tt_of 1563 (by decide +kernel) (by decide +kernel)
theorem q_1567 : (.methodLink RL 140 yX9_voterCount : Cond) ∈ TT := tt_of 1567 (by decide +kernel) (by decide +kernel)
theorem q_1571 : (.methodLink RL 148 yX9_districtNamed : Cond) ∈ TT := tt_of 1571 (by decide +kernel) (by decide +kernel)
theorem q_1575 : (.methodLink RL 152 yX9_projectNamed : Cond) ∈ TT := tt_of 1575 (by decide +kernel) (by decide +kernel)
theorem q_1579 : (.methodLink RL 158 yX9_budgetOf : Cond) ∈ TT := tt_of 1579 (by decide +kernel) (by decide +kernel)
theorem q_1591 : (.methodLink RL 164 yX9_costOf : Cond) ∈ TT := tt_of 1591 (by decide +kernel) (by decide +kernel)
theorem q_1599 : (.methodLink RL 167 yX9_districtsOf : Cond) ∈ TT := tt_of 1599 (by decide +kernel) (by decide +kernel)
theorem q_1603 : (.methodLink RL 170 yX9_memberships : Cond) ∈ TT := tt_of 1603 (by decide +kernel) (by decide +kernel)
theorem q_1611 : (.methodLink RL 173 yX9_approvals : Cond) ∈ TT := tt_of 1611 (by decide +kernel) (by decide +kernel)
theorem q_1615 : (.methodLink RL 176 yX9_weightOf : Cond) ∈ TT := tt_of 1615 (by decide +kernel) (by decide +kernel)
theorem q_1619 : (.methodLink RL 180 yX9_getSetting : Cond) ∈ TT := tt_of 1619 (by decide +kernel) (by decide +kernel)
theorem q_1623 : (.methodLink RL 183 yX9_supporters : Cond) ∈ TT := tt_of 1623 (by decide +kernel) (by decide +kernel)
theorem q_1631 : (.methodLink RL 186 yX9_votesFor : Cond) ∈ TT := tt_of 1631 (by decide +kernel) (by decide +kernel)
theorem q_1639 : (.methodLink RL 190 yX9_purse : Cond) ∈ TT := tt_of 1639 (by decide +kernel) (by decide +kernel)
theorem q_1647 : (.methodLink RL 193 yX9_firstPrice : Cond) ∈ TT := tt_of 1647 (by decide +kernel) (by decide +kernel)
theorem q_1675 : (.methodLink RL 197 yX9_funded : Cond) ∈ TT := tt_of 1675 (by decide +kernel) (by decide +kernel)
theorem q_1751 : (.methodLink RL 201 yX9_fundedAt : Cond) ∈ TT := tt_of 1751 (by decide +kernel) (by decide +kernel)
theorem q_1755 : (.methodLink RL 204 yX9_priceOf : Cond) ∈ TT := tt_of 1755 (by decide +kernel) (by decide +kernel)
theorem q_1759 : (.methodLink RL 207 yX9_paidBy : Cond) ∈ TT := tt_of 1759 (by decide +kernel) (by decide +kernel)
theorem q_1763 : (.methodLink RL 211 yX9_paidFrom : Cond) ∈ TT := tt_of 1763 (by decide +kernel) (by decide +kernel)
theorem q_1771 : (.methodLink RL 214 yX9_leftOf : Cond) ∈ TT := tt_of 1771 (by decide +kernel) (by decide +kernel)
theorem q_1775 : (.methodLink RL 217 yX9_purseLeft : Cond) ∈ TT := tt_of 1775 (by decide +kernel) (by decide +kernel)
theorem q_1779 : (.methodLink RL 220 yX9_meansLeft : Cond) ∈ TT := tt_of 1779 (by decide +kernel) (by decide +kernel)
theorem q_1783 : (.methodLink RL 224 yX9_raises : Cond) ∈ TT := tt_of 1783 (by decide +kernel) (by decide +kernel)
theorem q_1787 : (.methodLink RL 228 yX9_completed : Cond) ∈ TT := tt_of 1787 (by decide +kernel) (by decide +kernel)
theorem q_1795 : (.methodLink RL 232 yX9_totalCost : Cond) ∈ TT := tt_of 1795 (by decide +kernel) (by decide +kernel)
theorem q_1799 : (.methodLink RL 236 yX9_welfare : Cond) ∈ TT := tt_of 1799 (by decide +kernel) (by decide +kernel)
theorem q_1804 : (.methodLink RL 239 yX9_satisfaction : Cond) ∈ TT := tt_of 1804 (by decide +kernel) (by decide +kernel)
theorem q_1812 : (.methodLink RL 243 yX9_worstOff : Cond) ∈ TT := tt_of 1812 (by decide +kernel) (by decide +kernel)
theorem q_1816 : (.methodLink RL 247 yX9_leftOut : Cond) ∈ TT := tt_of 1816 (by decide +kernel) (by decide +kernel)
theorem q_1824 : (.methodLink RL 250 yX9_claimOf : Cond) ∈ TT := tt_of 1824 (by decide +kernel) (by decide +kernel)
theorem q_1832 : (.methodLink RL 254 yX9_unjust : Cond) ∈ TT := tt_of 1832 (by decide +kernel) (by decide +kernel)
theorem q_1836 : (.methodLink RL 257 yX9_changedWithout : Cond) ∈ TT := tt_of 1836 (by decide +kernel) (by decide +kernel)
theorem q_1840 : (.methodLink RL 260 yX9_greedyLimit : Cond) ∈ TT := tt_of 1840 (by decide +kernel) (by decide +kernel)
theorem q_1848 : (.methodLink RL 265 yX9_canBePaid : Cond) ∈ TT := tt_of 1848 (by decide +kernel) (by decide +kernel)
theorem q_1852 : (.methodLink RL 269 yX9_common : Cond) ∈ TT := tt_of 1852 (by decide +kernel) (by decide +kernel)
theorem q_1860 : (.methodLink RL 273 yX9_spread : Cond) ∈ TT := tt_of 1860 (by decide +kernel) (by decide +kernel)
theorem q_1864 : (.methodLink RL 277 yX9_loss : Cond) ∈ TT := tt_of 1864 (by decide +kernel) (by decide +kernel)
theorem q_1868 : (.methodLink RL 280 yX9_bestWithout : Cond) ∈ TT := tt_of 1868 (by decide +kernel) (by decide +kernel)
theorem q_1872 : (.methodLink RL 283 yX9_endowment : Cond) ∈ TT := tt_of 1872 (by decide +kernel) (by decide +kernel)
theorem q_1876 : (.methodLink RL 286 yX9_spentBy : Cond) ∈ TT := tt_of 1876 (by decide +kernel) (by decide +kernel)
theorem q_1880 : (.methodLink RL 289 yX9_payers : Cond) ∈ TT := tt_of 1880 (by decide +kernel) (by decide +kernel)
theorem q_1884 : (.methodLink RL 292 yX9_roundOf : Cond) ∈ TT := tt_of 1884 (by decide +kernel) (by decide +kernel)
theorem q_1888 : (.methodLink RL 295 yX9_commonSupport : Cond) ∈ TT := tt_of 1888 (by decide +kernel) (by decide +kernel)
theorem q_1892 : (.methodLink RL 298 yX9_priceIn : Cond) ∈ TT := tt_of 1892 (by decide +kernel) (by decide +kernel)
theorem q_1896 : (.methodLink RL 301 yX9_fundedWithBudget : Cond) ∈ TT := tt_of 1896 (by decide +kernel) (by decide +kernel)
theorem q_1904 : (.methodLink RL 304 yX9_fundedWithCost : Cond) ∈ TT := tt_of 1904 (by decide +kernel) (by decide +kernel)
theorem q_1908 : (.methodLink RL 307 yX9_fundedWithout : Cond) ∈ TT := tt_of 1908 (by decide +kernel) (by decide +kernel)
theorem q_1915 : (.methodLink RL 311 yX9_cheapestSet : Cond) ∈ TT := tt_of 1915 (by decide +kernel) (by decide +kernel)
theorem q_1919 : (.methodLink RL 314 yX9_districtWelfare : Cond) ∈ TT := tt_of 1919 (by decide +kernel) (by decide +kernel)
theorem q_1923 : (.methodLink RL 317 yX9_rankOf : Cond) ∈ TT := tt_of 1923 (by decide +kernel) (by decide +kernel)
theorem q_1927 : (.methodLink RL 321 yX9_richest : Cond) ∈ TT := tt_of 1927 (by decide +kernel) (by decide +kernel)
theorem q_1935 : (.methodLink RL 325 yX9_setBudget : Cond) ∈ TT := tt_of 1935 (by decide +kernel) (by decide +kernel)
theorem q_1947 : (.methodLink RL 329 yX9_setCost : Cond) ∈ TT := tt_of 1947 (by decide +kernel) (by decide +kernel)
theorem q_1951 : (.methodLink RL 333 yX9_setWeight : Cond) ∈ TT := tt_of 1951 (by decide +kernel) (by decide +kernel)
theorem q_1955 : (.methodLink RL 338 yX9_setMember : Cond) ∈ TT := tt_of 1955 (by decide +kernel) (by decide +kernel)
theorem q_1959 : (.methodLink RL 342 yX9_setApproval : Cond) ∈ TT := tt_of 1959 (by decide +kernel) (by decide +kernel)
theorem q_1963 : (.methodLink RL 346 yX9_setSetting : Cond) ∈ TT := tt_of 1963 (by decide +kernel) (by decide +kernel)
/-! budgetOf -/
abbrev rm_L_budgetOf : Room := { frames := 8, cells := 1, slots := 6, locals := 131 }
set_option maxRecDepth 20000 in
theorem zw_L_budgetOf {X : Cxt} (hX : okX X cL_budgetOf RL rm_L_budgetOf (some .int) 4) (ht : tb X [(0, 9, 12, 13)]) (M : Mem) (v0 : Nat) (v1 : Int32) (v2 : Nat) : Zj X (fun o : Int32 × Mem => Qr X rm_L_budgetOf.cells rm_L_budgetOf.slots (some (.int o.1)) o.2) 0 0 0 [(0, .ref v0), (1, .int v1), (2, .ref v2)] [] M (w_L_budgetOf M v0 v1 v2) := by
  unfold w_L_budgetOf
  refine z_aload_n hX 2 rfl rfl dL_budgetOf_0 ?_
  refine z_iconst (v := 0) hX (by decide) dL_budgetOf_1 ?_
  refine z_aload_n hX 0 rfl rfl dL_budgetOf_2 ?_
  refine z_iload_n hX 1 rfl rfl dL_budgetOf_3 ?_
  refine z_cVc 8 (fun v => some (.int v)) [.int v1] hX ht (fun l hl o ho => c_X8_budgetOf l hl M v0 v1 o ho) dL_budgetOf_4 (by decide) rfl rfl q_998 okV_X8_budgetOf rfl ⟨(Nat.le_of_ble_eq_true rfl), (Nat.le_of_ble_eq_true rfl)⟩ rfl (Nat.le_of_ble_eq_true rfl) rfl rfl ⟨(Nat.le_of_ble_eq_true rfl), (Nat.le_of_ble_eq_true rfl)⟩ ⟨by decide, by decide⟩ (by decide) q_997 (fun v M1 => ?_) (fun r M1 => ?_)
  · refine z_i2l hX rfl dL_budgetOf_7 ?_
    refine z_wL hX dL_budgetOf_8 (fun M2 => ?_)
    refine z_goto hX 15 (by decide) dL_budgetOf_9 ?_
    refine z_iconst (v := 0) hX (by decide) dL_budgetOf_15 ?_
    exact z_iretM hX dL_budgetOf_16 (Nat.le_of_ble_eq_true rfl) (Nat.le_of_ble_eq_true rfl)
  · refine z_astore_n hX [(3, .ref r), (0, .ref v0), (1, .int v1), (2, .ref v2)] rfl (by decide) rfl dL_budgetOf_12 ?_
    refine z_iconst (v := 1) hX (by decide) dL_budgetOf_13 ?_
    exact z_iretM hX dL_budgetOf_14 (Nat.le_of_ble_eq_true rfl) (Nat.le_of_ble_eq_true rfl)
theorem cw_L_budgetOf (l : Launch) (hl : l.stackTraces = false) (M : Mem) (v0 : Nat) (v1 : Int32) (v2 : Nat) (o : Int32 × Mem) (ho : w_L_budgetOf M v0 v1 v2 = some o) : Cw l yL_budgetOf cL_budgetOf 4 (some .int) [(0, 9, 12, 13)] rm_L_budgetOf [.ref v0, .int v1, .ref v2] M (some (.int o.1)) o.2 :=
  Cw.of hl (by decide +kernel) (Nat.le_of_ble_eq_true rfl) rfl (fun X hX ht => zw_L_budgetOf hX ht M v0 v1 v2 o ho)
theorem okW_L_budgetOf : okW yL_budgetOf cL_budgetOf 4 (some .int) [(0, 9, 12, 13)] 3 := ⟨q_995, q_85, q_996, by unfold okY; decide +kernel⟩
/-! costOf -/
abbrev rm_L_costOf : Room := { frames := 8, cells := 1, slots := 6, locals := 131 }
set_option maxRecDepth 20000 in
theorem zw_L_costOf {X : Cxt} (hX : okX X cL_costOf RL rm_L_costOf (some .int) 4) (ht : tb X [(0, 9, 12, 13)]) (M : Mem) (v0 : Nat) (v1 : Int32) (v2 : Nat) : Zj X (fun o : Int32 × Mem => Qr X rm_L_costOf.cells rm_L_costOf.slots (some (.int o.1)) o.2) 0 0 0 [(0, .ref v0), (1, .int v1), (2, .ref v2)] [] M (w_L_costOf M v0 v1 v2) := by
  unfold w_L_costOf
  refine z_aload_n hX 2 rfl rfl dL_costOf_0 ?_
  refine z_iconst (v := 0) hX (by decide) dL_costOf_1 ?_
  refine z_aload_n hX 0 rfl rfl dL_costOf_2 ?_
  refine z_iload_n hX 1 rfl rfl dL_costOf_3 ?_
  refine z_cVc 8 (fun v => some (.int v)) [.int v1] hX ht (fun l hl o ho => c_X8_costOf l hl M v0 v1 o ho) dL_costOf_4 (by decide) rfl rfl q_1069 okV_X8_costOf rfl ⟨(Nat.le_of_ble_eq_true rfl), (Nat.le_of_ble_eq_true rfl)⟩ rfl (Nat.le_of_ble_eq_true rfl) rfl rfl ⟨(Nat.le_of_ble_eq_true rfl), (Nat.le_of_ble_eq_true rfl)⟩ ⟨by decide, by decide⟩ (by decide) q_997 (fun v M1 => ?_) (fun r M1 => ?_)
  · refine z_i2l hX rfl dL_costOf_7 ?_
    refine z_wL hX dL_costOf_8 (fun M2 => ?_)
    refine z_goto hX 15 (by decide) dL_costOf_9 ?_
    refine z_iconst (v := 0) hX (by decide) dL_costOf_15 ?_
    exact z_iretM hX dL_costOf_16 (Nat.le_of_ble_eq_true rfl) (Nat.le_of_ble_eq_true rfl)
  · refine z_astore_n hX [(3, .ref r), (0, .ref v0), (1, .int v1), (2, .ref v2)] rfl (by decide) rfl dL_costOf_12 ?_
    refine z_iconst (v := 1) hX (by decide) dL_costOf_13 ?_
    exact z_iretM hX dL_costOf_14 (Nat.le_of_ble_eq_true rfl) (Nat.le_of_ble_eq_true rfl)
theorem cw_L_costOf (l : Launch) (hl : l.stackTraces = false) (M : Mem) (v0 : Nat) (v1 : Int32) (v2 : Nat) (o : Int32 × Mem) (ho : w_L_costOf M v0 v1 v2 = some o) : Cw l yL_costOf cL_costOf 4 (some .int) [(0, 9, 12, 13)] rm_L_costOf [.ref v0, .int v1, .ref v2] M (some (.int o.1)) o.2 :=
  Cw.of hl (by decide +kernel) (Nat.le_of_ble_eq_true rfl) rfl (fun X hX ht => zw_L_costOf hX ht M v0 v1 v2 o ho)
theorem okW_L_costOf : okW yL_costOf cL_costOf 4 (some .int) [(0, 9, 12, 13)] 3 := ⟨q_1067, q_85, q_1068, by unfold okY; decide +kernel⟩
/-! districtsOf -/
abbrev rm_L_districtsOf : Room := { frames := 8, cells := 1, slots := 6, locals := 131 }
set_option maxRecDepth 20000 in
theorem zw_L_districtsOf {X : Cxt} (hX : okX X cL_districtsOf RL rm_L_districtsOf (some .int) 4) (ht : tb X [(0, 9, 12, 13)]) (M : Mem) (v0 : Nat) (v1 : Int32) (v2 : Nat) : Zj X (fun o : Int32 × Mem => Qr X rm_L_districtsOf.cells rm_L_districtsOf.slots (some (.int o.1)) o.2) 0 0 0 [(0, .ref v0), (1, .int v1), (2, .ref v2)] [] M (w_L_districtsOf M v0 v1 v2) := by
  unfold w_L_districtsOf
  refine z_aload_n hX 2 rfl rfl dL_districtsOf_0 ?_
  refine z_iconst (v := 0) hX (by decide) dL_districtsOf_1 ?_
  refine z_aload_n hX 0 rfl rfl dL_districtsOf_2 ?_
  refine z_iload_n hX 1 rfl rfl dL_districtsOf_3 ?_
  refine z_cVc 8 (fun v => some (.int v)) [.int v1] hX ht (fun l hl o ho => c_X8_districtsOf l hl M v0 v1 o ho) dL_districtsOf_4 (by decide) rfl rfl q_1076 okV_X8_districtsOf rfl ⟨(Nat.le_of_ble_eq_true rfl), (Nat.le_of_ble_eq_true rfl)⟩ rfl (Nat.le_of_ble_eq_true rfl) rfl rfl ⟨(Nat.le_of_ble_eq_true rfl), (Nat.le_of_ble_eq_true rfl)⟩ ⟨by decide, by decide⟩ (by decide) q_997 (fun v M1 => ?_) (fun r M1 => ?_)
  · refine z_i2l hX rfl dL_districtsOf_7 ?_
    refine z_wL hX dL_districtsOf_8 (fun M2 => ?_)
    refine z_goto hX 15 (by decide) dL_districtsOf_9 ?_
    refine z_iconst (v := 0) hX (by decide) dL_districtsOf_15 ?_
    exact z_iretM hX dL_districtsOf_16 (Nat.le_of_ble_eq_true rfl) (Nat.le_of_ble_eq_true rfl)
  · refine z_astore_n hX [(3, .ref r), (0, .ref v0), (1, .int v1), (2, .ref v2)] rfl (by decide) rfl dL_districtsOf_12 ?_
    refine z_iconst (v := 1) hX (by decide) dL_districtsOf_13 ?_
    exact z_iretM hX dL_districtsOf_14 (Nat.le_of_ble_eq_true rfl) (Nat.le_of_ble_eq_true rfl)
theorem cw_L_districtsOf (l : Launch) (hl : l.stackTraces = false) (M : Mem) (v0 : Nat) (v1 : Int32) (v2 : Nat) (o : Int32 × Mem) (ho : w_L_districtsOf M v0 v1 v2 = some o) : Cw l yL_districtsOf cL_districtsOf 4 (some .int) [(0, 9, 12, 13)] rm_L_districtsOf [.ref v0, .int v1, .ref v2] M (some (.int o.1)) o.2 :=
  Cw.of hl (by decide +kernel) (Nat.le_of_ble_eq_true rfl) rfl (fun X hX ht => zw_L_districtsOf hX ht M v0 v1 v2 o ho)
theorem okW_L_districtsOf : okW yL_districtsOf cL_districtsOf 4 (some .int) [(0, 9, 12, 13)] 3 := ⟨q_1074, q_85, q_1075, by unfold okY; decide +kernel⟩
/-! memberships -/
abbrev rm_L_memberships : Room := { frames := 8, cells := 1, slots := 6, locals := 131 }
set_option maxRecDepth 20000 in
theorem zw_L_memberships {X : Cxt} (hX : okX X cL_memberships RL rm_L_memberships (some .int) 4) (ht : tb X [(0, 9, 12, 13)]) (M : Mem) (v0 : Nat) (v1 : Int32) (v2 : Nat) : Zj X (fun o : Int32 × Mem => Qr X rm_L_memberships.cells rm_L_memberships.slots (some (.int o.1)) o.2) 0 0 0 [(0, .ref v0), (1, .int v1), (2, .ref v2)] [] M (w_L_memberships M v0 v1 v2) := by
  unfold w_L_memberships
  refine z_aload_n hX 2 rfl rfl dL_memberships_0 ?_
  refine z_iconst (v := 0) hX (by decide) dL_memberships_1 ?_
  refine z_aload_n hX 0 rfl rfl dL_memberships_2 ?_
  refine z_iload_n hX 1 rfl rfl dL_memberships_3 ?_
  refine z_cVc 8 (fun v => some (.int v)) [.int v1] hX ht (fun l hl o ho => c_X8_memberships l hl M v0 v1 o ho) dL_memberships_4 (by decide) rfl rfl q_1083 okV_X8_memberships rfl ⟨(Nat.le_of_ble_eq_true rfl), (Nat.le_of_ble_eq_true rfl)⟩ rfl (Nat.le_of_ble_eq_true rfl) rfl rfl ⟨(Nat.le_of_ble_eq_true rfl), (Nat.le_of_ble_eq_true rfl)⟩ ⟨by decide, by decide⟩ (by decide) q_997 (fun v M1 => ?_) (fun r M1 => ?_)
  · refine z_i2l hX rfl dL_memberships_7 ?_
    refine z_wL hX dL_memberships_8 (fun M2 => ?_)
    refine z_goto hX 15 (by decide) dL_memberships_9 ?_
    refine z_iconst (v := 0) hX (by decide) dL_memberships_15 ?_
    exact z_iretM hX dL_memberships_16 (Nat.le_of_ble_eq_true rfl) (Nat.le_of_ble_eq_true rfl)
  · refine z_astore_n hX [(3, .ref r), (0, .ref v0), (1, .int v1), (2, .ref v2)] rfl (by decide) rfl dL_memberships_12 ?_
    refine z_iconst (v := 1) hX (by decide) dL_memberships_13 ?_
    exact z_iretM hX dL_memberships_14 (Nat.le_of_ble_eq_true rfl) (Nat.le_of_ble_eq_true rfl)
theorem cw_L_memberships (l : Launch) (hl : l.stackTraces = false) (M : Mem) (v0 : Nat) (v1 : Int32) (v2 : Nat) (o : Int32 × Mem) (ho : w_L_memberships M v0 v1 v2 = some o) : Cw l yL_memberships cL_memberships 4 (some .int) [(0, 9, 12, 13)] rm_L_memberships [.ref v0, .int v1, .ref v2] M (some (.int o.1)) o.2 :=
  Cw.of hl (by decide +kernel) (Nat.le_of_ble_eq_true rfl) rfl (fun X hX ht => zw_L_memberships hX ht M v0 v1 v2 o ho)
theorem okW_L_memberships : okW yL_memberships cL_memberships 4 (some .int) [(0, 9, 12, 13)] 3 := ⟨q_1081, q_85, q_1082, by unfold okY; decide +kernel⟩
/-! approvals -/
abbrev rm_L_approvals : Room := { frames := 8, cells := 1, slots := 6, locals := 131 }
set_option maxRecDepth 20000 in
theorem zw_L_approvals {X : Cxt} (hX : okX X cL_approvals RL rm_L_approvals (some .int) 4) (ht : tb X [(0, 9, 12, 13)]) (M : Mem) (v0 : Nat) (v1 : Int32) (v2 : Nat) : Zj X (fun o : Int32 × Mem => Qr X rm_L_approvals.cells rm_L_approvals.slots (some (.int o.1)) o.2) 0 0 0 [(0, .ref v0), (1, .int v1), (2, .ref v2)] [] M (w_L_approvals M v0 v1 v2) := by
  unfold w_L_approvals
  refine z_aload_n hX 2 rfl rfl dL_approvals_0 ?_
  refine z_iconst (v := 0) hX (by decide) dL_approvals_1 ?_
  refine z_aload_n hX 0 rfl rfl dL_approvals_2 ?_
  refine z_iload_n hX 1 rfl rfl dL_approvals_3 ?_
  refine z_cVc 8 (fun v => some (.int v)) [.int v1] hX ht (fun l hl o ho => c_X8_approvals l hl M v0 v1 o ho) dL_approvals_4 (by decide) rfl rfl q_1090 okV_X8_approvals rfl ⟨(Nat.le_of_ble_eq_true rfl), (Nat.le_of_ble_eq_true rfl)⟩ rfl (Nat.le_of_ble_eq_true rfl) rfl rfl ⟨(Nat.le_of_ble_eq_true rfl), (Nat.le_of_ble_eq_true rfl)⟩ ⟨by decide, by decide⟩ (by decide) q_997 (fun v M1 => ?_) (fun r M1 => ?_)
  · refine z_i2l hX rfl dL_approvals_7 ?_
    refine z_wL hX dL_approvals_8 (fun M2 => ?_)
    refine z_goto hX 15 (by decide) dL_approvals_9 ?_
    refine z_iconst (v := 0) hX (by decide) dL_approvals_15 ?_
    exact z_iretM hX dL_approvals_16 (Nat.le_of_ble_eq_true rfl) (Nat.le_of_ble_eq_true rfl)
  · refine z_astore_n hX [(3, .ref r), (0, .ref v0), (1, .int v1), (2, .ref v2)] rfl (by decide) rfl dL_approvals_12 ?_
    refine z_iconst (v := 1) hX (by decide) dL_approvals_13 ?_
    exact z_iretM hX dL_approvals_14 (Nat.le_of_ble_eq_true rfl) (Nat.le_of_ble_eq_true rfl)
theorem cw_L_approvals (l : Launch) (hl : l.stackTraces = false) (M : Mem) (v0 : Nat) (v1 : Int32) (v2 : Nat) (o : Int32 × Mem) (ho : w_L_approvals M v0 v1 v2 = some o) : Cw l yL_approvals cL_approvals 4 (some .int) [(0, 9, 12, 13)] rm_L_approvals [.ref v0, .int v1, .ref v2] M (some (.int o.1)) o.2 :=
  Cw.of hl (by decide +kernel) (Nat.le_of_ble_eq_true rfl) rfl (fun X hX ht => zw_L_approvals hX ht M v0 v1 v2 o ho)
theorem okW_L_approvals : okW yL_approvals cL_approvals 4 (some .int) [(0, 9, 12, 13)] 3 := ⟨q_1088, q_85, q_1089, by unfold okY; decide +kernel⟩
/-! weightOf -/
abbrev rm_L_weightOf : Room := { frames := 8, cells := 1, slots := 6, locals := 131 }
set_option maxRecDepth 20000 in
theorem zw_L_weightOf {X : Cxt} (hX : okX X cL_weightOf RL rm_L_weightOf (some .int) 4) (ht : tb X [(0, 9, 12, 13)]) (M : Mem) (v0 : Nat) (v1 : Int32) (v2 : Nat) : Zj X (fun o : Int32 × Mem => Qr X rm_L_weightOf.cells rm_L_weightOf.slots (some (.int o.1)) o.2) 0 0 0 [(0, .ref v0), (1, .int v1), (2, .ref v2)] [] M (w_L_weightOf M v0 v1 v2) := by
  unfold w_L_weightOf
  refine z_aload_n hX 2 rfl rfl dL_weightOf_0 ?_
  refine z_iconst (v := 0) hX (by decide) dL_weightOf_1 ?_
  refine z_aload_n hX 0 rfl rfl dL_weightOf_2 ?_
  refine z_iload_n hX 1 rfl rfl dL_weightOf_3 ?_
  refine z_cVc 8 (fun v => some (.int v)) [.int v1] hX ht (fun l hl o ho => c_X8_weightOf l hl M v0 v1 o ho) dL_weightOf_4 (by decide) rfl rfl q_1097 okV_X8_weightOf rfl ⟨(Nat.le_of_ble_eq_true rfl), (Nat.le_of_ble_eq_true rfl)⟩ rfl (Nat.le_of_ble_eq_true rfl) rfl rfl ⟨(Nat.le_of_ble_eq_true rfl), (Nat.le_of_ble_eq_true rfl)⟩ ⟨by decide, by decide⟩ (by decide) q_997 (fun v M1 => ?_) (fun r M1 => ?_)
  · refine z_i2l hX rfl dL_weightOf_7 ?_
    refine z_wL hX dL_weightOf_8 (fun M2 => ?_)
    refine z_goto hX 15 (by decide) dL_weightOf_9 ?_
    refine z_iconst (v := 0) hX (by decide) dL_weightOf_15 ?_
    exact z_iretM hX dL_weightOf_16 (Nat.le_of_ble_eq_true rfl) (Nat.le_of_ble_eq_true rfl)
  · refine z_astore_n hX [(3, .ref r), (0, .ref v0), (1, .int v1), (2, .ref v2)] rfl (by decide) rfl dL_weightOf_12 ?_
    refine z_iconst (v := 1) hX (by decide) dL_weightOf_13 ?_
    exact z_iretM hX dL_weightOf_14 (Nat.le_of_ble_eq_true rfl) (Nat.le_of_ble_eq_true rfl)
theorem cw_L_weightOf (l : Launch) (hl : l.stackTraces = false) (M : Mem) (v0 : Nat) (v1 : Int32) (v2 : Nat) (o : Int32 × Mem) (ho : w_L_weightOf M v0 v1 v2 = some o) : Cw l yL_weightOf cL_weightOf 4 (some .int) [(0, 9, 12, 13)] rm_L_weightOf [.ref v0, .int v1, .ref v2] M (some (.int o.1)) o.2 :=
  Cw.of hl (by decide +kernel) (Nat.le_of_ble_eq_true rfl) rfl (fun X hX ht => zw_L_weightOf hX ht M v0 v1 v2 o ho)
theorem okW_L_weightOf : okW yL_weightOf cL_weightOf 4 (some .int) [(0, 9, 12, 13)] 3 := ⟨q_1095, q_85, q_1096, by unfold okY; decide +kernel⟩
/-! supporters -/
abbrev rm_L_supporters : Room := { frames := 8, cells := 1, slots := 6, locals := 131 }
set_option maxRecDepth 20000 in
theorem zw_L_supporters {X : Cxt} (hX : okX X cL_supporters RL rm_L_supporters (some .int) 4) (ht : tb X [(0, 9, 12, 13)]) (M : Mem) (v0 : Nat) (v1 : Int32) (v2 : Nat) : Zj X (fun o : Int32 × Mem => Qr X rm_L_supporters.cells rm_L_supporters.slots (some (.int o.1)) o.2) 0 0 0 [(0, .ref v0), (1, .int v1), (2, .ref v2)] [] M (w_L_supporters M v0 v1 v2) := by
  unfold w_L_supporters
  refine z_aload_n hX 2 rfl rfl dL_supporters_0 ?_
  refine z_iconst (v := 0) hX (by decide) dL_supporters_1 ?_
  refine z_aload_n hX 0 rfl rfl dL_supporters_2 ?_
  refine z_iload_n hX 1 rfl rfl dL_supporters_3 ?_
  refine z_cVc 8 (fun v => some (.int v)) [.int v1] hX ht (fun l hl o ho => c_X8_supporters l hl M v0 v1 o ho) dL_supporters_4 (by decide) rfl rfl q_1104 okV_X8_supporters rfl ⟨(Nat.le_of_ble_eq_true rfl), (Nat.le_of_ble_eq_true rfl)⟩ rfl (Nat.le_of_ble_eq_true rfl) rfl rfl ⟨(Nat.le_of_ble_eq_true rfl), (Nat.le_of_ble_eq_true rfl)⟩ ⟨by decide, by decide⟩ (by decide) q_997 (fun v M1 => ?_) (fun r M1 => ?_)
  · refine z_i2l hX rfl dL_supporters_7 ?_
    refine z_wL hX dL_supporters_8 (fun M2 => ?_)
    refine z_goto hX 15 (by decide) dL_supporters_9 ?_
    refine z_iconst (v := 0) hX (by decide) dL_supporters_15 ?_
    exact z_iretM hX dL_supporters_16 (Nat.le_of_ble_eq_true rfl) (Nat.le_of_ble_eq_true rfl)
  · refine z_astore_n hX [(3, .ref r), (0, .ref v0), (1, .int v1), (2, .ref v2)] rfl (by decide) rfl dL_supporters_12 ?_
    refine z_iconst (v := 1) hX (by decide) dL_supporters_13 ?_
    exact z_iretM hX dL_supporters_14 (Nat.le_of_ble_eq_true rfl) (Nat.le_of_ble_eq_true rfl)
theorem cw_L_supporters (l : Launch) (hl : l.stackTraces = false) (M : Mem) (v0 : Nat) (v1 : Int32) (v2 : Nat) (o : Int32 × Mem) (ho : w_L_supporters M v0 v1 v2 = some o) : Cw l yL_supporters cL_supporters 4 (some .int) [(0, 9, 12, 13)] rm_L_supporters [.ref v0, .int v1, .ref v2] M (some (.int o.1)) o.2 :=
  Cw.of hl (by decide +kernel) (Nat.le_of_ble_eq_true rfl) rfl (fun X hX ht => zw_L_supporters hX ht M v0 v1 v2 o ho)
theorem okW_L_supporters : okW yL_supporters cL_supporters 4 (some .int) [(0, 9, 12, 13)] 3 := ⟨q_1102, q_85, q_1103, by unfold okY; decide +kernel⟩
/-! votesFor -/
abbrev rm_L_votesFor : Room := { frames := 8, cells := 1, slots := 6, locals := 131 }
set_option maxRecDepth 20000 in
theorem zw_L_votesFor {X : Cxt} (hX : okX X cL_votesFor RL rm_L_votesFor (some .int) 4) (ht : tb X [(0, 9, 12, 13)]) (M : Mem) (v0 : Nat) (v1 : Int32) (v2 : Nat) : Zj X (fun o : Int32 × Mem => Qr X rm_L_votesFor.cells rm_L_votesFor.slots (some (.int o.1)) o.2) 0 0 0 [(0, .ref v0), (1, .int v1), (2, .ref v2)] [] M (w_L_votesFor M v0 v1 v2) := by
  unfold w_L_votesFor
  refine z_aload_n hX 2 rfl rfl dL_votesFor_0 ?_
  refine z_iconst (v := 0) hX (by decide) dL_votesFor_1 ?_
  refine z_aload_n hX 0 rfl rfl dL_votesFor_2 ?_
  refine z_iload_n hX 1 rfl rfl dL_votesFor_3 ?_
  refine z_cVc 8 (fun v => some (.int v)) [.int v1] hX ht (fun l hl o ho => c_X8_votesFor l hl M v0 v1 o ho) dL_votesFor_4 (by decide) rfl rfl q_1111 okV_X8_votesFor rfl ⟨(Nat.le_of_ble_eq_true rfl), (Nat.le_of_ble_eq_true rfl)⟩ rfl (Nat.le_of_ble_eq_true rfl) rfl rfl ⟨(Nat.le_of_ble_eq_true rfl), (Nat.le_of_ble_eq_true rfl)⟩ ⟨by decide, by decide⟩ (by decide) q_997 (fun v M1 => ?_) (fun r M1 => ?_)
  · refine z_i2l hX rfl dL_votesFor_7 ?_
    refine z_wL hX dL_votesFor_8 (fun M2 => ?_)
    refine z_goto hX 15 (by decide) dL_votesFor_9 ?_
    refine z_iconst (v := 0) hX (by decide) dL_votesFor_15 ?_
    exact z_iretM hX dL_votesFor_16 (Nat.le_of_ble_eq_true rfl) (Nat.le_of_ble_eq_true rfl)
  · refine z_astore_n hX [(3, .ref r), (0, .ref v0), (1, .int v1), (2, .ref v2)] rfl (by decide) rfl dL_votesFor_12 ?_
    refine z_iconst (v := 1) hX (by decide) dL_votesFor_13 ?_
    exact z_iretM hX dL_votesFor_14 (Nat.le_of_ble_eq_true rfl) (Nat.le_of_ble_eq_true rfl)
theorem cw_L_votesFor (l : Launch) (hl : l.stackTraces = false) (M : Mem) (v0 : Nat) (v1 : Int32) (v2 : Nat) (o : Int32 × Mem) (ho : w_L_votesFor M v0 v1 v2 = some o) : Cw l yL_votesFor cL_votesFor 4 (some .int) [(0, 9, 12, 13)] rm_L_votesFor [.ref v0, .int v1, .ref v2] M (some (.int o.1)) o.2 :=
  Cw.of hl (by decide +kernel) (Nat.le_of_ble_eq_true rfl) rfl (fun X hX ht => zw_L_votesFor hX ht M v0 v1 v2 o ho)
theorem okW_L_votesFor : okW yL_votesFor cL_votesFor 4 (some .int) [(0, 9, 12, 13)] 3 := ⟨q_1109, q_85, q_1110, by unfold okY; decide +kernel⟩
/-! purse -/
abbrev rm_L_purse : Room := { frames := 8, cells := 2, slots := 12, locals := 132 }
set_option maxRecDepth 20000 in
theorem zw_L_purse {X : Cxt} (hX : okX X cL_purse RL rm_L_purse (some .int) 5) (ht : tb X [(0, 10, 13, 13)]) (M : Mem) (v0 : Nat) (v1 : Int32) (v2 : Int32) (v3 : Nat) : Zj X (fun o : Int32 × Mem => Qr X rm_L_purse.cells rm_L_purse.slots (some (.int o.1)) o.2) 0 0 0 [(0, .ref v0), (1, .int v1), (2, .int v2), (3, .ref v3)] [] M (w_L_purse M v0 v1 v2 v3) := by
  unfold w_L_purse
  refine z_aload_n hX 3 rfl rfl dL_purse_0 ?_
  refine z_iconst (v := 0) hX (by decide) dL_purse_1 ?_
  refine z_aload_n hX 0 rfl rfl dL_purse_2 ?_
  refine z_iload_n hX 1 rfl rfl dL_purse_3 ?_
  refine z_iload_n hX 2 rfl rfl dL_purse_4 ?_
  refine z_cVc 8 (fun v => some (.int v)) [.int v1, .int v2] hX ht (fun l hl o ho => c_X8_purse l hl M v0 v1 v2 o ho) dL_purse_5 (by decide) rfl rfl q_1118 okV_X8_purse rfl ⟨(Nat.le_of_ble_eq_true rfl), (Nat.le_of_ble_eq_true rfl)⟩ rfl (Nat.le_of_ble_eq_true rfl) rfl rfl ⟨(Nat.le_of_ble_eq_true rfl), (Nat.le_of_ble_eq_true rfl)⟩ ⟨by decide, by decide⟩ (by decide) q_997 (fun v M1 => ?_) (fun r M1 => ?_)
  · refine z_i2l hX rfl dL_purse_8 ?_
    refine z_wL hX dL_purse_9 (fun M2 => ?_)
    refine z_goto hX 17 (by decide) dL_purse_10 ?_
    refine z_iconst (v := 0) hX (by decide) dL_purse_17 ?_
    exact z_iretM hX dL_purse_18 (Nat.le_of_ble_eq_true rfl) (Nat.le_of_ble_eq_true rfl)
  · refine z_astore hX [(4, .ref r), (0, .ref v0), (1, .int v1), (2, .int v2), (3, .ref v3)] (by decide) rfl dL_purse_13 ?_
    refine z_iconst (v := 1) hX (by decide) dL_purse_15 ?_
    exact z_iretM hX dL_purse_16 (Nat.le_of_ble_eq_true rfl) (Nat.le_of_ble_eq_true rfl)
theorem cw_L_purse (l : Launch) (hl : l.stackTraces = false) (M : Mem) (v0 : Nat) (v1 : Int32) (v2 : Int32) (v3 : Nat) (o : Int32 × Mem) (ho : w_L_purse M v0 v1 v2 v3 = some o) : Cw l yL_purse cL_purse 5 (some .int) [(0, 10, 13, 13)] rm_L_purse [.ref v0, .int v1, .int v2, .ref v3] M (some (.int o.1)) o.2 :=
  Cw.of hl (by decide +kernel) (Nat.le_of_ble_eq_true rfl) rfl (fun X hX ht => zw_L_purse hX ht M v0 v1 v2 v3 o ho)
theorem okW_L_purse : okW yL_purse cL_purse 5 (some .int) [(0, 10, 13, 13)] 4 := ⟨q_1116, q_85, q_1117, by unfold okY; decide +kernel⟩
/-! firstPrice -/
abbrev rm_L_firstPrice : Room := { frames := 8, cells := 1, slots := 6, locals := 165 }
set_option maxRecDepth 20000 in
theorem zw_L_firstPrice {X : Cxt} (hX : okX X cL_firstPrice RL rm_L_firstPrice (some .int) 4) (ht : tb X [(0, 9, 12, 13)]) (M : Mem) (v0 : Nat) (v1 : Int32) (v2 : Nat) : Zj X (fun o : Int32 × Mem => Qr X rm_L_firstPrice.cells rm_L_firstPrice.slots (some (.int o.1)) o.2) 0 0 0 [(0, .ref v0), (1, .int v1), (2, .ref v2)] [] M (w_L_firstPrice M v0 v1 v2) := by
  unfold w_L_firstPrice
  refine z_aload_n hX 2 rfl rfl dL_firstPrice_0 ?_
  refine z_iconst (v := 0) hX (by decide) dL_firstPrice_1 ?_
  refine z_aload_n hX 0 rfl rfl dL_firstPrice_2 ?_
  refine z_iload_n hX 1 rfl rfl dL_firstPrice_3 ?_
  refine z_cVc 8 (fun v => some (.int v)) [.int v1] hX ht (fun l hl o ho => c_X8_firstPrice l hl M v0 v1 o ho) dL_firstPrice_4 (by decide) rfl rfl q_1126 okV_X8_firstPrice rfl ⟨(Nat.le_of_ble_eq_true rfl), (Nat.le_of_ble_eq_true rfl)⟩ rfl (Nat.le_of_ble_eq_true rfl) rfl rfl ⟨(Nat.le_of_ble_eq_true rfl), (Nat.le_of_ble_eq_true rfl)⟩ ⟨by decide, by decide⟩ (by decide) q_997 (fun v M1 => ?_) (fun r M1 => ?_)
  · refine z_i2l hX rfl dL_firstPrice_7 ?_
    refine z_wL hX dL_firstPrice_8 (fun M2 => ?_)
    refine z_goto hX 15 (by decide) dL_firstPrice_9 ?_
    refine z_iconst (v := 0) hX (by decide) dL_firstPrice_15 ?_
    exact z_iretM hX dL_firstPrice_16 (Nat.le_of_ble_eq_true rfl) (Nat.le_of_ble_eq_true rfl)
  · refine z_astore_n hX [(3, .ref r), (0, .ref v0), (1, .int v1), (2, .ref v2)] rfl (by decide) rfl dL_firstPrice_12 ?_
    refine z_iconst (v := 1) hX (by decide) dL_firstPrice_13 ?_
    exact z_iretM hX dL_firstPrice_14 (Nat.le_of_ble_eq_true rfl) (Nat.le_of_ble_eq_true rfl)
theorem cw_L_firstPrice (l : Launch) (hl : l.stackTraces = false) (M : Mem) (v0 : Nat) (v1 : Int32) (v2 : Nat) (o : Int32 × Mem) (ho : w_L_firstPrice M v0 v1 v2 = some o) : Cw l yL_firstPrice cL_firstPrice 4 (some .int) [(0, 9, 12, 13)] rm_L_firstPrice [.ref v0, .int v1, .ref v2] M (some (.int o.1)) o.2 :=
  Cw.of hl (by decide +kernel) (Nat.le_of_ble_eq_true rfl) rfl (fun X hX ht => zw_L_firstPrice hX ht M v0 v1 v2 o ho)
theorem okW_L_firstPrice : okW yL_firstPrice cL_firstPrice 4 (some .int) [(0, 9, 12, 13)] 3 := ⟨q_1124, q_85, q_1125, by unfold okY; decide +kernel⟩
/-! priceOf -/
abbrev rm_L_priceOf : Room := { frames := 8, cells := 1, slots := 6, locals := 167 }
set_option maxRecDepth 20000 in
theorem zw_L_priceOf {X : Cxt} (hX : okX X cL_priceOf RL rm_L_priceOf (some .int) 4) (ht : tb X [(0, 9, 12, 13)]) (M : Mem) (v0 : Nat) (v1 : Int32) (v2 : Nat) : Zj X (fun o : Int32 × Mem => Qr X rm_L_priceOf.cells rm_L_priceOf.slots (some (.int o.1)) o.2) 0 0 0 [(0, .ref v0), (1, .int v1), (2, .ref v2)] [] M (w_L_priceOf M v0 v1 v2) := by
  unfold w_L_priceOf
  refine z_aload_n hX 2 rfl rfl dL_priceOf_0 ?_
  refine z_iconst (v := 0) hX (by decide) dL_priceOf_1 ?_
  refine z_aload_n hX 0 rfl rfl dL_priceOf_2 ?_
  refine z_iload_n hX 1 rfl rfl dL_priceOf_3 ?_
  refine z_cVc 8 (fun v => some (.int v)) [.int v1] hX ht (fun l hl o ho => c_X8_priceOf l hl M v0 v1 o ho) dL_priceOf_4 (by decide) rfl rfl q_1133 okV_X8_priceOf rfl ⟨(Nat.le_of_ble_eq_true rfl), (Nat.le_of_ble_eq_true rfl)⟩ rfl (Nat.le_of_ble_eq_true rfl) rfl rfl ⟨(Nat.le_of_ble_eq_true rfl), (Nat.le_of_ble_eq_true rfl)⟩ ⟨by decide, by decide⟩ (by decide) q_997 (fun v M1 => ?_) (fun r M1 => ?_)
  · refine z_i2l hX rfl dL_priceOf_7 ?_
    refine z_wL hX dL_priceOf_8 (fun M2 => ?_)
    refine z_goto hX 15 (by decide) dL_priceOf_9 ?_
    refine z_iconst (v := 0) hX (by decide) dL_priceOf_15 ?_
    exact z_iretM hX dL_priceOf_16 (Nat.le_of_ble_eq_true rfl) (Nat.le_of_ble_eq_true rfl)
  · refine z_astore_n hX [(3, .ref r), (0, .ref v0), (1, .int v1), (2, .ref v2)] rfl (by decide) rfl dL_priceOf_12 ?_
    refine z_iconst (v := 1) hX (by decide) dL_priceOf_13 ?_
    exact z_iretM hX dL_priceOf_14 (Nat.le_of_ble_eq_true rfl) (Nat.le_of_ble_eq_true rfl)
theorem cw_L_priceOf (l : Launch) (hl : l.stackTraces = false) (M : Mem) (v0 : Nat) (v1 : Int32) (v2 : Nat) (o : Int32 × Mem) (ho : w_L_priceOf M v0 v1 v2 = some o) : Cw l yL_priceOf cL_priceOf 4 (some .int) [(0, 9, 12, 13)] rm_L_priceOf [.ref v0, .int v1, .ref v2] M (some (.int o.1)) o.2 :=
  Cw.of hl (by decide +kernel) (Nat.le_of_ble_eq_true rfl) rfl (fun X hX ht => zw_L_priceOf hX ht M v0 v1 v2 o ho)
theorem okW_L_priceOf : okW yL_priceOf cL_priceOf 4 (some .int) [(0, 9, 12, 13)] 3 := ⟨q_1131, q_85, q_1132, by unfold okY; decide +kernel⟩
/-! paidBy -/
abbrev rm_L_paidBy : Room := { frames := 8, cells := 2, slots := 12, locals := 166 }
set_option maxRecDepth 20000 in
theorem zw_L_paidBy {X : Cxt} (hX : okX X cL_paidBy RL rm_L_paidBy (some .int) 5) (ht : tb X [(0, 10, 13, 13)]) (M : Mem) (v0 : Nat) (v1 : Int32) (v2 : Int32) (v3 : Nat) : Zj X (fun o : Int32 × Mem => Qr X rm_L_paidBy.cells rm_L_paidBy.slots (some (.int o.1)) o.2) 0 0 0 [(0, .ref v0), (1, .int v1), (2, .int v2), (3, .ref v3)] [] M (w_L_paidBy M v0 v1 v2 v3) := by
  unfold w_L_paidBy
  refine z_aload_n hX 3 rfl rfl dL_paidBy_0 ?_
  refine z_iconst (v := 0) hX (by decide) dL_paidBy_1 ?_
  refine z_aload_n hX 0 rfl rfl dL_paidBy_2 ?_
  refine z_iload_n hX 1 rfl rfl dL_paidBy_3 ?_
  refine z_iload_n hX 2 rfl rfl dL_paidBy_4 ?_
  refine z_cVc 8 (fun v => some (.int v)) [.int v1, .int v2] hX ht (fun l hl o ho => c_X8_paidBy l hl M v0 v1 v2 o ho) dL_paidBy_5 (by decide) rfl rfl q_1144 okV_X8_paidBy rfl ⟨(Nat.le_of_ble_eq_true rfl), (Nat.le_of_ble_eq_true rfl)⟩ rfl (Nat.le_of_ble_eq_true rfl) rfl rfl ⟨(Nat.le_of_ble_eq_true rfl), (Nat.le_of_ble_eq_true rfl)⟩ ⟨by decide, by decide⟩ (by decide) q_997 (fun v M1 => ?_) (fun r M1 => ?_)
  · refine z_i2l hX rfl dL_paidBy_8 ?_
    refine z_wL hX dL_paidBy_9 (fun M2 => ?_)
    refine z_goto hX 17 (by decide) dL_paidBy_10 ?_
    refine z_iconst (v := 0) hX (by decide) dL_paidBy_17 ?_
    exact z_iretM hX dL_paidBy_18 (Nat.le_of_ble_eq_true rfl) (Nat.le_of_ble_eq_true rfl)
  · refine z_astore hX [(4, .ref r), (0, .ref v0), (1, .int v1), (2, .int v2), (3, .ref v3)] (by decide) rfl dL_paidBy_13 ?_
    refine z_iconst (v := 1) hX (by decide) dL_paidBy_15 ?_
    exact z_iretM hX dL_paidBy_16 (Nat.le_of_ble_eq_true rfl) (Nat.le_of_ble_eq_true rfl)
theorem cw_L_paidBy (l : Launch) (hl : l.stackTraces = false) (M : Mem) (v0 : Nat) (v1 : Int32) (v2 : Int32) (v3 : Nat) (o : Int32 × Mem) (ho : w_L_paidBy M v0 v1 v2 v3 = some o) : Cw l yL_paidBy cL_paidBy 5 (some .int) [(0, 10, 13, 13)] rm_L_paidBy [.ref v0, .int v1, .int v2, .ref v3] M (some (.int o.1)) o.2 :=
  Cw.of hl (by decide +kernel) (Nat.le_of_ble_eq_true rfl) rfl (fun X hX ht => zw_L_paidBy hX ht M v0 v1 v2 v3 o ho)
theorem okW_L_paidBy : okW yL_paidBy cL_paidBy 5 (some .int) [(0, 10, 13, 13)] 4 := ⟨q_1142, q_85, q_1143, by unfold okY; decide +kernel⟩
/-! paidFrom -/
abbrev rm_L_paidFrom : Room := { frames := 8, cells := 2, slots := 12, locals := 168 }
set_option maxRecDepth 20000 in
theorem zw_L_paidFrom {X : Cxt} (hX : okX X cL_paidFrom RL rm_L_paidFrom (some .int) 6) (ht : tb X [(0, 12, 15, 13)]) (M : Mem) (v0 : Nat) (v1 : Int32) (v2 : Int32) (v3 : Int32) (v4 : Nat) : Zj X (fun o : Int32 × Mem => Qr X rm_L_paidFrom.cells rm_L_paidFrom.slots (some (.int o.1)) o.2) 0 0 0 [(0, .ref v0), (1, .int v1), (2, .int v2), (3, .int v3), (4, .ref v4)] [] M (w_L_paidFrom M v0 v1 v2 v3 v4) := by
  unfold w_L_paidFrom
  refine z_aload hX 4 rfl dL_paidFrom_0 ?_
  refine z_iconst (v := 0) hX (by decide) dL_paidFrom_2 ?_
  refine z_aload_n hX 0 rfl rfl dL_paidFrom_3 ?_
  refine z_iload_n hX 1 rfl rfl dL_paidFrom_4 ?_
  refine z_iload_n hX 2 rfl rfl dL_paidFrom_5 ?_
  refine z_iload_n hX 3 rfl rfl dL_paidFrom_6 ?_
  refine z_cVc 8 (fun v => some (.int v)) [.int v1, .int v2, .int v3] hX ht (fun l hl o ho => c_X8_paidFrom l hl M v0 v1 v2 v3 o ho) dL_paidFrom_7 (by decide) rfl rfl q_1151 okV_X8_paidFrom rfl ⟨(Nat.le_of_ble_eq_true rfl), (Nat.le_of_ble_eq_true rfl)⟩ rfl (Nat.le_of_ble_eq_true rfl) rfl rfl ⟨(Nat.le_of_ble_eq_true rfl), (Nat.le_of_ble_eq_true rfl)⟩ ⟨by decide, by decide⟩ (by decide) q_997 (fun v M1 => ?_) (fun r M1 => ?_)
  · refine z_i2l hX rfl dL_paidFrom_10 ?_
    refine z_wL hX dL_paidFrom_11 (fun M2 => ?_)
    refine z_goto hX 19 (by decide) dL_paidFrom_12 ?_
    refine z_iconst (v := 0) hX (by decide) dL_paidFrom_19 ?_
    exact z_iretM hX dL_paidFrom_20 (Nat.le_of_ble_eq_true rfl) (Nat.le_of_ble_eq_true rfl)
  · refine z_astore hX [(5, .ref r), (0, .ref v0), (1, .int v1), (2, .int v2), (3, .int v3), (4, .ref v4)] (by decide) rfl dL_paidFrom_15 ?_
    refine z_iconst (v := 1) hX (by decide) dL_paidFrom_17 ?_
    exact z_iretM hX dL_paidFrom_18 (Nat.le_of_ble_eq_true rfl) (Nat.le_of_ble_eq_true rfl)
theorem cw_L_paidFrom (l : Launch) (hl : l.stackTraces = false) (M : Mem) (v0 : Nat) (v1 : Int32) (v2 : Int32) (v3 : Int32) (v4 : Nat) (o : Int32 × Mem) (ho : w_L_paidFrom M v0 v1 v2 v3 v4 = some o) : Cw l yL_paidFrom cL_paidFrom 6 (some .int) [(0, 12, 15, 13)] rm_L_paidFrom [.ref v0, .int v1, .int v2, .int v3, .ref v4] M (some (.int o.1)) o.2 :=
  Cw.of hl (by decide +kernel) (Nat.le_of_ble_eq_true rfl) rfl (fun X hX ht => zw_L_paidFrom hX ht M v0 v1 v2 v3 v4 o ho)
theorem okW_L_paidFrom : okW yL_paidFrom cL_paidFrom 6 (some .int) [(0, 12, 15, 13)] 5 := ⟨q_1149, q_85, q_1150, by unfold okY; decide +kernel⟩
/-! leftOf -/
abbrev rm_L_leftOf : Room := { frames := 8, cells := 1, slots := 6, locals := 166 }
set_option maxRecDepth 20000 in
theorem zw_L_leftOf {X : Cxt} (hX : okX X cL_leftOf RL rm_L_leftOf (some .int) 5) (ht : tb X [(0, 10, 13, 13)]) (M : Mem) (v0 : Nat) (v1 : Int32) (v2 : Int32) (v3 : Nat) : Zj X (fun o : Int32 × Mem => Qr X rm_L_leftOf.cells rm_L_leftOf.slots (some (.int o.1)) o.2) 0 0 0 [(0, .ref v0), (1, .int v1), (2, .int v2), (3, .ref v3)] [] M (w_L_leftOf M v0 v1 v2 v3) := by
  unfold w_L_leftOf
  refine z_aload_n hX 3 rfl rfl dL_leftOf_0 ?_
  refine z_iconst (v := 0) hX (by decide) dL_leftOf_1 ?_
  refine z_aload_n hX 0 rfl rfl dL_leftOf_2 ?_
  refine z_iload_n hX 1 rfl rfl dL_leftOf_3 ?_
  refine z_iload_n hX 2 rfl rfl dL_leftOf_4 ?_
  refine z_cVc 8 (fun v => some (.int v)) [.int v1, .int v2] hX ht (fun l hl o ho => c_X8_leftOf l hl M v0 v1 v2 o ho) dL_leftOf_5 (by decide) rfl rfl q_1158 okV_X8_leftOf rfl ⟨(Nat.le_of_ble_eq_true rfl), (Nat.le_of_ble_eq_true rfl)⟩ rfl (Nat.le_of_ble_eq_true rfl) rfl rfl ⟨(Nat.le_of_ble_eq_true rfl), (Nat.le_of_ble_eq_true rfl)⟩ ⟨by decide, by decide⟩ (by decide) q_997 (fun v M1 => ?_) (fun r M1 => ?_)
  · refine z_i2l hX rfl dL_leftOf_8 ?_
    refine z_wL hX dL_leftOf_9 (fun M2 => ?_)
    refine z_goto hX 17 (by decide) dL_leftOf_10 ?_
    refine z_iconst (v := 0) hX (by decide) dL_leftOf_17 ?_
    exact z_iretM hX dL_leftOf_18 (Nat.le_of_ble_eq_true rfl) (Nat.le_of_ble_eq_true rfl)
  · refine z_astore hX [(4, .ref r), (0, .ref v0), (1, .int v1), (2, .int v2), (3, .ref v3)] (by decide) rfl dL_leftOf_13 ?_
    refine z_iconst (v := 1) hX (by decide) dL_leftOf_15 ?_
    exact z_iretM hX dL_leftOf_16 (Nat.le_of_ble_eq_true rfl) (Nat.le_of_ble_eq_true rfl)
theorem cw_L_leftOf (l : Launch) (hl : l.stackTraces = false) (M : Mem) (v0 : Nat) (v1 : Int32) (v2 : Int32) (v3 : Nat) (o : Int32 × Mem) (ho : w_L_leftOf M v0 v1 v2 v3 = some o) : Cw l yL_leftOf cL_leftOf 5 (some .int) [(0, 10, 13, 13)] rm_L_leftOf [.ref v0, .int v1, .int v2, .ref v3] M (some (.int o.1)) o.2 :=
  Cw.of hl (by decide +kernel) (Nat.le_of_ble_eq_true rfl) rfl (fun X hX ht => zw_L_leftOf hX ht M v0 v1 v2 v3 o ho)
theorem okW_L_leftOf : okW yL_leftOf cL_leftOf 5 (some .int) [(0, 10, 13, 13)] 4 := ⟨q_1156, q_85, q_1157, by unfold okY; decide +kernel⟩
/-! purseLeft -/
abbrev rm_L_purseLeft : Room := { frames := 8, cells := 2, slots := 12, locals := 166 }
set_option maxRecDepth 20000 in
theorem zw_L_purseLeft {X : Cxt} (hX : okX X cL_purseLeft RL rm_L_purseLeft (some .int) 5) (ht : tb X [(0, 10, 13, 13)]) (M : Mem) (v0 : Nat) (v1 : Int32) (v2 : Int32) (v3 : Nat) : Zj X (fun o : Int32 × Mem => Qr X rm_L_purseLeft.cells rm_L_purseLeft.slots (some (.int o.1)) o.2) 0 0 0 [(0, .ref v0), (1, .int v1), (2, .int v2), (3, .ref v3)] [] M (w_L_purseLeft M v0 v1 v2 v3) := by
  unfold w_L_purseLeft
  refine z_aload_n hX 3 rfl rfl dL_purseLeft_0 ?_
  refine z_iconst (v := 0) hX (by decide) dL_purseLeft_1 ?_
  refine z_aload_n hX 0 rfl rfl dL_purseLeft_2 ?_
  refine z_iload_n hX 1 rfl rfl dL_purseLeft_3 ?_
  refine z_iload_n hX 2 rfl rfl dL_purseLeft_4 ?_
  refine z_cVc 8 (fun v => some (.int v)) [.int v1, .int v2] hX ht (fun l hl o ho => c_X8_purseLeft l hl M v0 v1 v2 o ho) dL_purseLeft_5 (by decide) rfl rfl q_1165 okV_X8_purseLeft rfl ⟨(Nat.le_of_ble_eq_true rfl), (Nat.le_of_ble_eq_true rfl)⟩ rfl (Nat.le_of_ble_eq_true rfl) rfl rfl ⟨(Nat.le_of_ble_eq_true rfl), (Nat.le_of_ble_eq_true rfl)⟩ ⟨by decide, by decide⟩ (by decide) q_997 (fun v M1 => ?_) (fun r M1 => ?_)
  · refine z_i2l hX rfl dL_purseLeft_8 ?_
    refine z_wL hX dL_purseLeft_9 (fun M2 => ?_)
    refine z_goto hX 17 (by decide) dL_purseLeft_10 ?_
    refine z_iconst (v := 0) hX (by decide) dL_purseLeft_17 ?_
    exact z_iretM hX dL_purseLeft_18 (Nat.le_of_ble_eq_true rfl) (Nat.le_of_ble_eq_true rfl)
  · refine z_astore hX [(4, .ref r), (0, .ref v0), (1, .int v1), (2, .int v2), (3, .ref v3)] (by decide) rfl dL_purseLeft_13 ?_
    refine z_iconst (v := 1) hX (by decide) dL_purseLeft_15 ?_
    exact z_iretM hX dL_purseLeft_16 (Nat.le_of_ble_eq_true rfl) (Nat.le_of_ble_eq_true rfl)
theorem cw_L_purseLeft (l : Launch) (hl : l.stackTraces = false) (M : Mem) (v0 : Nat) (v1 : Int32) (v2 : Int32) (v3 : Nat) (o : Int32 × Mem) (ho : w_L_purseLeft M v0 v1 v2 v3 = some o) : Cw l yL_purseLeft cL_purseLeft 5 (some .int) [(0, 10, 13, 13)] rm_L_purseLeft [.ref v0, .int v1, .int v2, .ref v3] M (some (.int o.1)) o.2 :=
  Cw.of hl (by decide +kernel) (Nat.le_of_ble_eq_true rfl) rfl (fun X hX ht => zw_L_purseLeft hX ht M v0 v1 v2 v3 o ho)
theorem okW_L_purseLeft : okW yL_purseLeft cL_purseLeft 5 (some .int) [(0, 10, 13, 13)] 4 := ⟨q_1163, q_85, q_1164, by unfold okY; decide +kernel⟩
/-! meansLeft -/
abbrev rm_L_meansLeft : Room := { frames := 8, cells := 1, slots := 6, locals := 168 }
set_option maxRecDepth 20000 in
theorem zw_L_meansLeft {X : Cxt} (hX : okX X cL_meansLeft RL rm_L_meansLeft (some .int) 4) (ht : tb X [(0, 9, 12, 13)]) (M : Mem) (v0 : Nat) (v1 : Int32) (v2 : Nat) : Zj X (fun o : Int32 × Mem => Qr X rm_L_meansLeft.cells rm_L_meansLeft.slots (some (.int o.1)) o.2) 0 0 0 [(0, .ref v0), (1, .int v1), (2, .ref v2)] [] M (w_L_meansLeft M v0 v1 v2) := by
  unfold w_L_meansLeft
  refine z_aload_n hX 2 rfl rfl dL_meansLeft_0 ?_
  refine z_iconst (v := 0) hX (by decide) dL_meansLeft_1 ?_
  refine z_aload_n hX 0 rfl rfl dL_meansLeft_2 ?_
  refine z_iload_n hX 1 rfl rfl dL_meansLeft_3 ?_
  refine z_cVc 8 (fun v => some (.int v)) [.int v1] hX ht (fun l hl o ho => c_X8_meansLeft l hl M v0 v1 o ho) dL_meansLeft_4 (by decide) rfl rfl q_1172 okV_X8_meansLeft rfl ⟨(Nat.le_of_ble_eq_true rfl), (Nat.le_of_ble_eq_true rfl)⟩ rfl (Nat.le_of_ble_eq_true rfl) rfl rfl ⟨(Nat.le_of_ble_eq_true rfl), (Nat.le_of_ble_eq_true rfl)⟩ ⟨by decide, by decide⟩ (by decide) q_997 (fun v M1 => ?_) (fun r M1 => ?_)
  · refine z_i2l hX rfl dL_meansLeft_7 ?_
    refine z_wL hX dL_meansLeft_8 (fun M2 => ?_)
    refine z_goto hX 15 (by decide) dL_meansLeft_9 ?_
    refine z_iconst (v := 0) hX (by decide) dL_meansLeft_15 ?_
    exact z_iretM hX dL_meansLeft_16 (Nat.le_of_ble_eq_true rfl) (Nat.le_of_ble_eq_true rfl)
  · refine z_astore_n hX [(3, .ref r), (0, .ref v0), (1, .int v1), (2, .ref v2)] rfl (by decide) rfl dL_meansLeft_12 ?_
    refine z_iconst (v := 1) hX (by decide) dL_meansLeft_13 ?_
    exact z_iretM hX dL_meansLeft_14 (Nat.le_of_ble_eq_true rfl) (Nat.le_of_ble_eq_true rfl)
theorem cw_L_meansLeft (l : Launch) (hl : l.stackTraces = false) (M : Mem) (v0 : Nat) (v1 : Int32) (v2 : Nat) (o : Int32 × Mem) (ho : w_L_meansLeft M v0 v1 v2 = some o) : Cw l yL_meansLeft cL_meansLeft 4 (some .int) [(0, 9, 12, 13)] rm_L_meansLeft [.ref v0, .int v1, .ref v2] M (some (.int o.1)) o.2 :=
  Cw.of hl (by decide +kernel) (Nat.le_of_ble_eq_true rfl) rfl (fun X hX ht => zw_L_meansLeft hX ht M v0 v1 v2 o ho)
theorem okW_L_meansLeft : okW yL_meansLeft cL_meansLeft 4 (some .int) [(0, 9, 12, 13)] 3 := ⟨q_1170, q_85, q_1171, by unfold okY; decide +kernel⟩
/-! satisfaction -/
abbrev rm_L_satisfaction : Room := { frames := 8, cells := 1, slots := 6, locals := 187 }
set_option maxRecDepth 20000 in
theorem zw_L_satisfaction {X : Cxt} (hX : okX X cL_satisfaction RL rm_L_satisfaction (some .int) 5) (ht : tb X [(0, 10, 13, 13)]) (M : Mem) (v0 : Nat) (v1 : Int32) (v2 : Int32) (v3 : Nat) : Zj X (fun o : Int32 × Mem => Qr X rm_L_satisfaction.cells rm_L_satisfaction.slots (some (.int o.1)) o.2) 0 0 0 [(0, .ref v0), (1, .int v1), (2, .int v2), (3, .ref v3)] [] M (w_L_satisfaction M v0 v1 v2 v3) := by
  unfold w_L_satisfaction
  refine z_aload_n hX 3 rfl rfl dL_satisfaction_0 ?_
  refine z_iconst (v := 0) hX (by decide) dL_satisfaction_1 ?_
  refine z_aload_n hX 0 rfl rfl dL_satisfaction_2 ?_
  refine z_iload_n hX 1 rfl rfl dL_satisfaction_3 ?_
  refine z_iload_n hX 2 rfl rfl dL_satisfaction_4 ?_
  refine z_cVc 8 (fun v => some (.int v)) [.int v1, .int v2] hX ht (fun l hl o ho => c_X8_satisfaction l hl M v0 v1 v2 o ho) dL_satisfaction_5 (by decide) rfl rfl q_1179 okV_X8_satisfaction rfl ⟨(Nat.le_of_ble_eq_true rfl), (Nat.le_of_ble_eq_true rfl)⟩ rfl (Nat.le_of_ble_eq_true rfl) rfl rfl ⟨(Nat.le_of_ble_eq_true rfl), (Nat.le_of_ble_eq_true rfl)⟩ ⟨by decide, by decide⟩ (by decide) q_997 (fun v M1 => ?_) (fun r M1 => ?_)
  · refine z_i2l hX rfl dL_satisfaction_8 ?_
    refine z_wL hX dL_satisfaction_9 (fun M2 => ?_)
    refine z_goto hX 17 (by decide) dL_satisfaction_10 ?_
    refine z_iconst (v := 0) hX (by decide) dL_satisfaction_17 ?_
    exact z_iretM hX dL_satisfaction_18 (Nat.le_of_ble_eq_true rfl) (Nat.le_of_ble_eq_true rfl)
  · refine z_astore hX [(4, .ref r), (0, .ref v0), (1, .int v1), (2, .int v2), (3, .ref v3)] (by decide) rfl dL_satisfaction_13 ?_
    refine z_iconst (v := 1) hX (by decide) dL_satisfaction_15 ?_
    exact z_iretM hX dL_satisfaction_16 (Nat.le_of_ble_eq_true rfl) (Nat.le_of_ble_eq_true rfl)
theorem cw_L_satisfaction (l : Launch) (hl : l.stackTraces = false) (M : Mem) (v0 : Nat) (v1 : Int32) (v2 : Int32) (v3 : Nat) (o : Int32 × Mem) (ho : w_L_satisfaction M v0 v1 v2 v3 = some o) : Cw l yL_satisfaction cL_satisfaction 5 (some .int) [(0, 10, 13, 13)] rm_L_satisfaction [.ref v0, .int v1, .int v2, .ref v3] M (some (.int o.1)) o.2 :=
  Cw.of hl (by decide +kernel) (Nat.le_of_ble_eq_true rfl) rfl (fun X hX ht => zw_L_satisfaction hX ht M v0 v1 v2 v3 o ho)
theorem okW_L_satisfaction : okW yL_satisfaction cL_satisfaction 5 (some .int) [(0, 10, 13, 13)] 4 := ⟨q_1177, q_85, q_1178, by unfold okY; decide +kernel⟩
/-! claimOf -/
abbrev rm_L_claimOf : Room := { frames := 8, cells := 1, slots := 6, locals := 187 }
set_option maxRecDepth 20000 in
theorem zw_L_claimOf {X : Cxt} (hX : okX X cL_claimOf RL rm_L_claimOf (some .int) 5) (ht : tb X [(0, 10, 13, 13)]) (M : Mem) (v0 : Nat) (v1 : Int32) (v2 : Int32) (v3 : Nat) : Zj X (fun o : Int32 × Mem => Qr X rm_L_claimOf.cells rm_L_claimOf.slots (some (.int o.1)) o.2) 0 0 0 [(0, .ref v0), (1, .int v1), (2, .int v2), (3, .ref v3)] [] M (w_L_claimOf M v0 v1 v2 v3) := by
  unfold w_L_claimOf
  refine z_aload_n hX 3 rfl rfl dL_claimOf_0 ?_
  refine z_iconst (v := 0) hX (by decide) dL_claimOf_1 ?_
  refine z_aload_n hX 0 rfl rfl dL_claimOf_2 ?_
  refine z_iload_n hX 1 rfl rfl dL_claimOf_3 ?_
  refine z_iload_n hX 2 rfl rfl dL_claimOf_4 ?_
  refine z_cVc 8 (fun v => some (.int v)) [.int v1, .int v2] hX ht (fun l hl o ho => c_X8_claimOf l hl M v0 v1 v2 o ho) dL_claimOf_5 (by decide) rfl rfl q_1186 okV_X8_claimOf rfl ⟨(Nat.le_of_ble_eq_true rfl), (Nat.le_of_ble_eq_true rfl)⟩ rfl (Nat.le_of_ble_eq_true rfl) rfl rfl ⟨(Nat.le_of_ble_eq_true rfl), (Nat.le_of_ble_eq_true rfl)⟩ ⟨by decide, by decide⟩ (by decide) q_997 (fun v M1 => ?_) (fun r M1 => ?_)
  · refine z_i2l hX rfl dL_claimOf_8 ?_
    refine z_wL hX dL_claimOf_9 (fun M2 => ?_)
    refine z_goto hX 17 (by decide) dL_claimOf_10 ?_
    refine z_iconst (v := 0) hX (by decide) dL_claimOf_17 ?_
    exact z_iretM hX dL_claimOf_18 (Nat.le_of_ble_eq_true rfl) (Nat.le_of_ble_eq_true rfl)
  · refine z_astore hX [(4, .ref r), (0, .ref v0), (1, .int v1), (2, .int v2), (3, .ref v3)] (by decide) rfl dL_claimOf_13 ?_
    refine z_iconst (v := 1) hX (by decide) dL_claimOf_15 ?_
    exact z_iretM hX dL_claimOf_16 (Nat.le_of_ble_eq_true rfl) (Nat.le_of_ble_eq_true rfl)
theorem cw_L_claimOf (l : Launch) (hl : l.stackTraces = false) (M : Mem) (v0 : Nat) (v1 : Int32) (v2 : Int32) (v3 : Nat) (o : Int32 × Mem) (ho : w_L_claimOf M v0 v1 v2 v3 = some o) : Cw l yL_claimOf cL_claimOf 5 (some .int) [(0, 10, 13, 13)] rm_L_claimOf [.ref v0, .int v1, .int v2, .ref v3] M (some (.int o.1)) o.2 :=
  Cw.of hl (by decide +kernel) (Nat.le_of_ble_eq_true rfl) rfl (fun X hX ht => zw_L_claimOf hX ht M v0 v1 v2 v3 o ho)
theorem okW_L_claimOf : okW yL_claimOf cL_claimOf 5 (some .int) [(0, 10, 13, 13)] 4 := ⟨q_1184, q_85, q_1185, by unfold okY; decide +kernel⟩
/-! changedWithout -/
abbrev rm_L_changedWithout : Room := { frames := 8, cells := 1, slots := 6, locals := 186 }
set_option maxRecDepth 20000 in
theorem zw_L_changedWithout {X : Cxt} (hX : okX X cL_changedWithout RL rm_L_changedWithout (some .int) 4) (ht : tb X [(0, 9, 12, 13)]) (M : Mem) (v0 : Nat) (v1 : Int32) (v2 : Nat) : Zj X (fun o : Int32 × Mem => Qr X rm_L_changedWithout.cells rm_L_changedWithout.slots (some (.int o.1)) o.2) 0 0 0 [(0, .ref v0), (1, .int v1), (2, .ref v2)] [] M (w_L_changedWithout M v0 v1 v2) := by
  unfold w_L_changedWithout
  refine z_aload_n hX 2 rfl rfl dL_changedWithout_0 ?_
  refine z_iconst (v := 0) hX (by decide) dL_changedWithout_1 ?_
  refine z_aload_n hX 0 rfl rfl dL_changedWithout_2 ?_
  refine z_iload_n hX 1 rfl rfl dL_changedWithout_3 ?_
  refine z_cVc 8 (fun v => some (.int v)) [.int v1] hX ht (fun l hl o ho => c_X8_changedWithout l hl M v0 v1 o ho) dL_changedWithout_4 (by decide) rfl rfl q_1193 okV_X8_changedWithout rfl ⟨(Nat.le_of_ble_eq_true rfl), (Nat.le_of_ble_eq_true rfl)⟩ rfl (Nat.le_of_ble_eq_true rfl) rfl rfl ⟨(Nat.le_of_ble_eq_true rfl), (Nat.le_of_ble_eq_true rfl)⟩ ⟨by decide, by decide⟩ (by decide) q_997 (fun v M1 => ?_) (fun r M1 => ?_)
  · refine z_i2l hX rfl dL_changedWithout_7 ?_
    refine z_wL hX dL_changedWithout_8 (fun M2 => ?_)
    refine z_goto hX 15 (by decide) dL_changedWithout_9 ?_
    refine z_iconst (v := 0) hX (by decide) dL_changedWithout_15 ?_
    exact z_iretM hX dL_changedWithout_16 (Nat.le_of_ble_eq_true rfl) (Nat.le_of_ble_eq_true rfl)
  · refine z_astore_n hX [(3, .ref r), (0, .ref v0), (1, .int v1), (2, .ref v2)] rfl (by decide) rfl dL_changedWithout_12 ?_
    refine z_iconst (v := 1) hX (by decide) dL_changedWithout_13 ?_
    exact z_iretM hX dL_changedWithout_14 (Nat.le_of_ble_eq_true rfl) (Nat.le_of_ble_eq_true rfl)
theorem cw_L_changedWithout (l : Launch) (hl : l.stackTraces = false) (M : Mem) (v0 : Nat) (v1 : Int32) (v2 : Nat) (o : Int32 × Mem) (ho : w_L_changedWithout M v0 v1 v2 = some o) : Cw l yL_changedWithout cL_changedWithout 4 (some .int) [(0, 9, 12, 13)] rm_L_changedWithout [.ref v0, .int v1, .ref v2] M (some (.int o.1)) o.2 :=
  Cw.of hl (by decide +kernel) (Nat.le_of_ble_eq_true rfl) rfl (fun X hX ht => zw_L_changedWithout hX ht M v0 v1 v2 o ho)
theorem okW_L_changedWithout : okW yL_changedWithout cL_changedWithout 4 (some .int) [(0, 9, 12, 13)] 3 := ⟨q_1191, q_85, q_1192, by unfold okY; decide +kernel⟩
/-! greedyLimit -/
abbrev rm_L_greedyLimit : Room := { frames := 8, cells := 1, slots := 6, locals := 137 }
set_option maxRecDepth 20000 in
theorem zw_L_greedyLimit {X : Cxt} (hX : okX X cL_greedyLimit RL rm_L_greedyLimit (some .int) 4) (ht : tb X [(0, 9, 12, 13)]) (M : Mem) (v0 : Nat) (v1 : Int32) (v2 : Nat) : Zj X (fun o : Int32 × Mem => Qr X rm_L_greedyLimit.cells rm_L_greedyLimit.slots (some (.int o.1)) o.2) 0 0 0 [(0, .ref v0), (1, .int v1), (2, .ref v2)] [] M (w_L_greedyLimit M v0 v1 v2) := by
  unfold w_L_greedyLimit
  refine z_aload_n hX 2 rfl rfl dL_greedyLimit_0 ?_
  refine z_iconst (v := 0) hX (by decide) dL_greedyLimit_1 ?_
  refine z_aload_n hX 0 rfl rfl dL_greedyLimit_2 ?_
  refine z_iload_n hX 1 rfl rfl dL_greedyLimit_3 ?_
  refine z_cVc 8 (fun v => some (.int v)) [.int v1] hX ht (fun l hl o ho => c_X8_greedyLimit l hl M v0 v1 o ho) dL_greedyLimit_4 (by decide) rfl rfl q_1208 okV_X8_greedyLimit rfl ⟨(Nat.le_of_ble_eq_true rfl), (Nat.le_of_ble_eq_true rfl)⟩ rfl (Nat.le_of_ble_eq_true rfl) rfl rfl ⟨(Nat.le_of_ble_eq_true rfl), (Nat.le_of_ble_eq_true rfl)⟩ ⟨by decide, by decide⟩ (by decide) q_997 (fun v M1 => ?_) (fun r M1 => ?_)
  · refine z_i2l hX rfl dL_greedyLimit_7 ?_
    refine z_wL hX dL_greedyLimit_8 (fun M2 => ?_)
    refine z_goto hX 15 (by decide) dL_greedyLimit_9 ?_
    refine z_iconst (v := 0) hX (by decide) dL_greedyLimit_15 ?_
    exact z_iretM hX dL_greedyLimit_16 (Nat.le_of_ble_eq_true rfl) (Nat.le_of_ble_eq_true rfl)
  · refine z_astore_n hX [(3, .ref r), (0, .ref v0), (1, .int v1), (2, .ref v2)] rfl (by decide) rfl dL_greedyLimit_12 ?_
    refine z_iconst (v := 1) hX (by decide) dL_greedyLimit_13 ?_
    exact z_iretM hX dL_greedyLimit_14 (Nat.le_of_ble_eq_true rfl) (Nat.le_of_ble_eq_true rfl)
theorem cw_L_greedyLimit (l : Launch) (hl : l.stackTraces = false) (M : Mem) (v0 : Nat) (v1 : Int32) (v2 : Nat) (o : Int32 × Mem) (ho : w_L_greedyLimit M v0 v1 v2 = some o) : Cw l yL_greedyLimit cL_greedyLimit 4 (some .int) [(0, 9, 12, 13)] rm_L_greedyLimit [.ref v0, .int v1, .ref v2] M (some (.int o.1)) o.2 :=
  Cw.of hl (by decide +kernel) (Nat.le_of_ble_eq_true rfl) rfl (fun X hX ht => zw_L_greedyLimit hX ht M v0 v1 v2 o ho)
theorem okW_L_greedyLimit : okW yL_greedyLimit cL_greedyLimit 4 (some .int) [(0, 9, 12, 13)] 3 := ⟨q_1206, q_85, q_1207, by unfold okY; decide +kernel⟩
/-! bestWithout -/
abbrev rm_L_bestWithout : Room := { frames := 8, cells := 1, slots := 6, locals := 132 }
set_option maxRecDepth 20000 in
theorem zw_L_bestWithout {X : Cxt} (hX : okX X cL_bestWithout RL rm_L_bestWithout (some .int) 4) (ht : tb X [(0, 8, 11, 13)]) (M : Mem) (v0 : Nat) (v1 : Int32) (v2 : Nat) : Zj X (fun o : Int32 × Mem => Qr X rm_L_bestWithout.cells rm_L_bestWithout.slots (some (.int o.1)) o.2) 0 0 0 [(0, .ref v0), (1, .int v1), (2, .ref v2)] [] M (w_L_bestWithout M v0 v1 v2) := by
  unfold w_L_bestWithout
  refine z_aload_n hX 2 rfl rfl dL_bestWithout_0 ?_
  refine z_iconst (v := 0) hX (by decide) dL_bestWithout_1 ?_
  refine z_aload_n hX 0 rfl rfl dL_bestWithout_2 ?_
  refine z_iload_n hX 1 rfl rfl dL_bestWithout_3 ?_
  refine z_cVc 8 (fun v => some (.long v)) [.int v1] hX ht (fun l hl o ho => c_X8_bestWithout l hl M v0 v1 o ho) dL_bestWithout_4 (by decide) rfl rfl q_1220 okV_X8_bestWithout rfl ⟨(Nat.le_of_ble_eq_true rfl), (Nat.le_of_ble_eq_true rfl)⟩ rfl (Nat.le_of_ble_eq_true rfl) rfl rfl ⟨(Nat.le_of_ble_eq_true rfl), (Nat.le_of_ble_eq_true rfl)⟩ ⟨by decide, by decide⟩ (by decide) q_997 (fun v M1 => ?_) (fun r M1 => ?_)
  · refine z_wL hX dL_bestWithout_7 (fun M2 => ?_)
    refine z_goto hX 14 (by decide) dL_bestWithout_8 ?_
    refine z_iconst (v := 0) hX (by decide) dL_bestWithout_14 ?_
    exact z_iretM hX dL_bestWithout_15 (Nat.le_of_ble_eq_true rfl) (Nat.le_of_ble_eq_true rfl)
  · refine z_astore_n hX [(3, .ref r), (0, .ref v0), (1, .int v1), (2, .ref v2)] rfl (by decide) rfl dL_bestWithout_11 ?_
    refine z_iconst (v := 1) hX (by decide) dL_bestWithout_12 ?_
    exact z_iretM hX dL_bestWithout_13 (Nat.le_of_ble_eq_true rfl) (Nat.le_of_ble_eq_true rfl)
theorem cw_L_bestWithout (l : Launch) (hl : l.stackTraces = false) (M : Mem) (v0 : Nat) (v1 : Int32) (v2 : Nat) (o : Int32 × Mem) (ho : w_L_bestWithout M v0 v1 v2 = some o) : Cw l yL_bestWithout cL_bestWithout 4 (some .int) [(0, 8, 11, 13)] rm_L_bestWithout [.ref v0, .int v1, .ref v2] M (some (.int o.1)) o.2 :=
  Cw.of hl (by decide +kernel) (Nat.le_of_ble_eq_true rfl) rfl (fun X hX ht => zw_L_bestWithout hX ht M v0 v1 v2 o ho)
theorem okW_L_bestWithout : okW yL_bestWithout cL_bestWithout 4 (some .int) [(0, 8, 11, 13)] 3 := ⟨q_1218, q_85, q_1219, by unfold okY; decide +kernel⟩
/-! endowment -/
abbrev rm_L_endowment : Room := { frames := 8, cells := 1, slots := 6, locals := 131 }
set_option maxRecDepth 20000 in
theorem zw_L_endowment {X : Cxt} (hX : okX X cL_endowment RL rm_L_endowment (some .int) 4) (ht : tb X [(0, 9, 12, 13)]) (M : Mem) (v0 : Nat) (v1 : Int32) (v2 : Nat) : Zj X (fun o : Int32 × Mem => Qr X rm_L_endowment.cells rm_L_endowment.slots (some (.int o.1)) o.2) 0 0 0 [(0, .ref v0), (1, .int v1), (2, .ref v2)] [] M (w_L_endowment M v0 v1 v2) := by
  unfold w_L_endowment
  refine z_aload_n hX 2 rfl rfl dL_endowment_0 ?_
  refine z_iconst (v := 0) hX (by decide) dL_endowment_1 ?_
  refine z_aload_n hX 0 rfl rfl dL_endowment_2 ?_
  refine z_iload_n hX 1 rfl rfl dL_endowment_3 ?_
  refine z_cVc 8 (fun v => some (.int v)) [.int v1] hX ht (fun l hl o ho => c_X8_endowment l hl M v0 v1 o ho) dL_endowment_4 (by decide) rfl rfl q_1227 okV_X8_endowment rfl ⟨(Nat.le_of_ble_eq_true rfl), (Nat.le_of_ble_eq_true rfl)⟩ rfl (Nat.le_of_ble_eq_true rfl) rfl rfl ⟨(Nat.le_of_ble_eq_true rfl), (Nat.le_of_ble_eq_true rfl)⟩ ⟨by decide, by decide⟩ (by decide) q_997 (fun v M1 => ?_) (fun r M1 => ?_)
  · refine z_i2l hX rfl dL_endowment_7 ?_
    refine z_wL hX dL_endowment_8 (fun M2 => ?_)
    refine z_goto hX 15 (by decide) dL_endowment_9 ?_
    refine z_iconst (v := 0) hX (by decide) dL_endowment_15 ?_
    exact z_iretM hX dL_endowment_16 (Nat.le_of_ble_eq_true rfl) (Nat.le_of_ble_eq_true rfl)
  · refine z_astore_n hX [(3, .ref r), (0, .ref v0), (1, .int v1), (2, .ref v2)] rfl (by decide) rfl dL_endowment_12 ?_
    refine z_iconst (v := 1) hX (by decide) dL_endowment_13 ?_
    exact z_iretM hX dL_endowment_14 (Nat.le_of_ble_eq_true rfl) (Nat.le_of_ble_eq_true rfl)
theorem cw_L_endowment (l : Launch) (hl : l.stackTraces = false) (M : Mem) (v0 : Nat) (v1 : Int32) (v2 : Nat) (o : Int32 × Mem) (ho : w_L_endowment M v0 v1 v2 = some o) : Cw l yL_endowment cL_endowment 4 (some .int) [(0, 9, 12, 13)] rm_L_endowment [.ref v0, .int v1, .ref v2] M (some (.int o.1)) o.2 :=
  Cw.of hl (by decide +kernel) (Nat.le_of_ble_eq_true rfl) rfl (fun X hX ht => zw_L_endowment hX ht M v0 v1 v2 o ho)
theorem okW_L_endowment : okW yL_endowment cL_endowment 4 (some .int) [(0, 9, 12, 13)] 3 := ⟨q_1225, q_85, q_1226, by unfold okY; decide +kernel⟩
/-! spentBy -/
abbrev rm_L_spentBy : Room := { frames := 8, cells := 1, slots := 6, locals := 168 }
set_option maxRecDepth 20000 in
theorem zw_L_spentBy {X : Cxt} (hX : okX X cL_spentBy RL rm_L_spentBy (some .int) 4) (ht : tb X [(0, 9, 12, 13)]) (M : Mem) (v0 : Nat) (v1 : Int32) (v2 : Nat) : Zj X (fun o : Int32 × Mem => Qr X rm_L_spentBy.cells rm_L_spentBy.slots (some (.int o.1)) o.2) 0 0 0 [(0, .ref v0), (1, .int v1), (2, .ref v2)] [] M (w_L_spentBy M v0 v1 v2) := by
  unfold w_L_spentBy
  refine z_aload_n hX 2 rfl rfl dL_spentBy_0 ?_
  refine z_iconst (v := 0) hX (by decide) dL_spentBy_1 ?_
  refine z_aload_n hX 0 rfl rfl dL_spentBy_2 ?_
  refine z_iload_n hX 1 rfl rfl dL_spentBy_3 ?_
  refine z_cVc 8 (fun v => some (.int v)) [.int v1] hX ht (fun l hl o ho => c_X8_spentBy l hl M v0 v1 o ho) dL_spentBy_4 (by decide) rfl rfl q_1235 okV_X8_spentBy rfl ⟨(Nat.le_of_ble_eq_true rfl), (Nat.le_of_ble_eq_true rfl)⟩ rfl (Nat.le_of_ble_eq_true rfl) rfl rfl ⟨(Nat.le_of_ble_eq_true rfl), (Nat.le_of_ble_eq_true rfl)⟩ ⟨by decide, by decide⟩ (by decide) q_997 (fun v M1 => ?_) (fun r M1 => ?_)
  · refine z_i2l hX rfl dL_spentBy_7 ?_
    refine z_wL hX dL_spentBy_8 (fun M2 => ?_)
    refine z_goto hX 15 (by decide) dL_spentBy_9 ?_
    refine z_iconst (v := 0) hX (by decide) dL_spentBy_15 ?_
    exact z_iretM hX dL_spentBy_16 (Nat.le_of_ble_eq_true rfl) (Nat.le_of_ble_eq_true rfl)
  · refine z_astore_n hX [(3, .ref r), (0, .ref v0), (1, .int v1), (2, .ref v2)] rfl (by decide) rfl dL_spentBy_12 ?_
    refine z_iconst (v := 1) hX (by decide) dL_spentBy_13 ?_
    exact z_iretM hX dL_spentBy_14 (Nat.le_of_ble_eq_true rfl) (Nat.le_of_ble_eq_true rfl)
theorem cw_L_spentBy (l : Launch) (hl : l.stackTraces = false) (M : Mem) (v0 : Nat) (v1 : Int32) (v2 : Nat) (o : Int32 × Mem) (ho : w_L_spentBy M v0 v1 v2 = some o) : Cw l yL_spentBy cL_spentBy 4 (some .int) [(0, 9, 12, 13)] rm_L_spentBy [.ref v0, .int v1, .ref v2] M (some (.int o.1)) o.2 :=
  Cw.of hl (by decide +kernel) (Nat.le_of_ble_eq_true rfl) rfl (fun X hX ht => zw_L_spentBy hX ht M v0 v1 v2 o ho)
theorem okW_L_spentBy : okW yL_spentBy cL_spentBy 4 (some .int) [(0, 9, 12, 13)] 3 := ⟨q_1233, q_85, q_1234, by unfold okY; decide +kernel⟩
/-! payers -/
abbrev rm_L_payers : Room := { frames := 8, cells := 1, slots := 6, locals := 168 }
set_option maxRecDepth 20000 in
theorem zw_L_payers {X : Cxt} (hX : okX X cL_payers RL rm_L_payers (some .int) 4) (ht : tb X [(0, 9, 12, 13)]) (M : Mem) (v0 : Nat) (v1 : Int32) (v2 : Nat) : Zj X (fun o : Int32 × Mem => Qr X rm_L_payers.cells rm_L_payers.slots (some (.int o.1)) o.2) 0 0 0 [(0, .ref v0), (1, .int v1), (2, .ref v2)] [] M (w_L_payers M v0 v1 v2) := by
  unfold w_L_payers
  refine z_aload_n hX 2 rfl rfl dL_payers_0 ?_
  refine z_iconst (v := 0) hX (by decide) dL_payers_1 ?_
  refine z_aload_n hX 0 rfl rfl dL_payers_2 ?_
  refine z_iload_n hX 1 rfl rfl dL_payers_3 ?_
  refine z_cVc 8 (fun v => some (.int v)) [.int v1] hX ht (fun l hl o ho => c_X8_payers l hl M v0 v1 o ho) dL_payers_4 (by decide) rfl rfl q_1242 okV_X8_payers rfl ⟨(Nat.le_of_ble_eq_true rfl), (Nat.le_of_ble_eq_true rfl)⟩ rfl (Nat.le_of_ble_eq_true rfl) rfl rfl ⟨(Nat.le_of_ble_eq_true rfl), (Nat.le_of_ble_eq_true rfl)⟩ ⟨by decide, by decide⟩ (by decide) q_997 (fun v M1 => ?_) (fun r M1 => ?_)
  · refine z_i2l hX rfl dL_payers_7 ?_
    refine z_wL hX dL_payers_8 (fun M2 => ?_)
    refine z_goto hX 15 (by decide) dL_payers_9 ?_
    refine z_iconst (v := 0) hX (by decide) dL_payers_15 ?_
    exact z_iretM hX dL_payers_16 (Nat.le_of_ble_eq_true rfl) (Nat.le_of_ble_eq_true rfl)
  · refine z_astore_n hX [(3, .ref r), (0, .ref v0), (1, .int v1), (2, .ref v2)] rfl (by decide) rfl dL_payers_12 ?_
    refine z_iconst (v := 1) hX (by decide) dL_payers_13 ?_
    exact z_iretM hX dL_payers_14 (Nat.le_of_ble_eq_true rfl) (Nat.le_of_ble_eq_true rfl)
theorem cw_L_payers (l : Launch) (hl : l.stackTraces = false) (M : Mem) (v0 : Nat) (v1 : Int32) (v2 : Nat) (o : Int32 × Mem) (ho : w_L_payers M v0 v1 v2 = some o) : Cw l yL_payers cL_payers 4 (some .int) [(0, 9, 12, 13)] rm_L_payers [.ref v0, .int v1, .ref v2] M (some (.int o.1)) o.2 :=
  Cw.of hl (by decide +kernel) (Nat.le_of_ble_eq_true rfl) rfl (fun X hX ht => zw_L_payers hX ht M v0 v1 v2 o ho)
theorem okW_L_payers : okW yL_payers cL_payers 4 (some .int) [(0, 9, 12, 13)] 3 := ⟨q_1240, q_85, q_1241, by unfold okY; decide +kernel⟩
/-! roundOf -/
abbrev rm_L_roundOf : Room := { frames := 8, cells := 1, slots := 6, locals := 165 }
set_option maxRecDepth 20000 in
theorem zw_L_roundOf {X : Cxt} (hX : okX X cL_roundOf RL rm_L_roundOf (some .int) 4) (ht : tb X [(0, 9, 12, 13)]) (M : Mem) (v0 : Nat) (v1 : Int32) (v2 : Nat) : Zj X (fun o : Int32 × Mem => Qr X rm_L_roundOf.cells rm_L_roundOf.slots (some (.int o.1)) o.2) 0 0 0 [(0, .ref v0), (1, .int v1), (2, .ref v2)] [] M (w_L_roundOf M v0 v1 v2) := by
  unfold w_L_roundOf
  refine z_aload_n hX 2 rfl rfl dL_roundOf_0 ?_
  refine z_iconst (v := 0) hX (by decide) dL_roundOf_1 ?_
  refine z_aload_n hX 0 rfl rfl dL_roundOf_2 ?_
  refine z_iload_n hX 1 rfl rfl dL_roundOf_3 ?_
  refine z_cVc 8 (fun v => some (.int v)) [.int v1] hX ht (fun l hl o ho => c_X8_roundOf l hl M v0 v1 o ho) dL_roundOf_4 (by decide) rfl rfl q_1249 okV_X8_roundOf rfl ⟨(Nat.le_of_ble_eq_true rfl), (Nat.le_of_ble_eq_true rfl)⟩ rfl (Nat.le_of_ble_eq_true rfl) rfl rfl ⟨(Nat.le_of_ble_eq_true rfl), (Nat.le_of_ble_eq_true rfl)⟩ ⟨by decide, by decide⟩ (by decide) q_997 (fun v M1 => ?_) (fun r M1 => ?_)
  · refine z_i2l hX rfl dL_roundOf_7 ?_
    refine z_wL hX dL_roundOf_8 (fun M2 => ?_)
    refine z_goto hX 15 (by decide) dL_roundOf_9 ?_
    refine z_iconst (v := 0) hX (by decide) dL_roundOf_15 ?_
    exact z_iretM hX dL_roundOf_16 (Nat.le_of_ble_eq_true rfl) (Nat.le_of_ble_eq_true rfl)
  · refine z_astore_n hX [(3, .ref r), (0, .ref v0), (1, .int v1), (2, .ref v2)] rfl (by decide) rfl dL_roundOf_12 ?_
    refine z_iconst (v := 1) hX (by decide) dL_roundOf_13 ?_
    exact z_iretM hX dL_roundOf_14 (Nat.le_of_ble_eq_true rfl) (Nat.le_of_ble_eq_true rfl)
theorem cw_L_roundOf (l : Launch) (hl : l.stackTraces = false) (M : Mem) (v0 : Nat) (v1 : Int32) (v2 : Nat) (o : Int32 × Mem) (ho : w_L_roundOf M v0 v1 v2 = some o) : Cw l yL_roundOf cL_roundOf 4 (some .int) [(0, 9, 12, 13)] rm_L_roundOf [.ref v0, .int v1, .ref v2] M (some (.int o.1)) o.2 :=
  Cw.of hl (by decide +kernel) (Nat.le_of_ble_eq_true rfl) rfl (fun X hX ht => zw_L_roundOf hX ht M v0 v1 v2 o ho)
theorem okW_L_roundOf : okW yL_roundOf cL_roundOf 4 (some .int) [(0, 9, 12, 13)] 3 := ⟨q_1247, q_85, q_1248, by unfold okY; decide +kernel⟩
/-! commonSupport -/
abbrev rm_L_commonSupport : Room := { frames := 8, cells := 2, slots := 12, locals := 132 }
set_option maxRecDepth 20000 in
theorem zw_L_commonSupport {X : Cxt} (hX : okX X cL_commonSupport RL rm_L_commonSupport (some .int) 5) (ht : tb X [(0, 10, 13, 13)]) (M : Mem) (v0 : Nat) (v1 : Int32) (v2 : Int32) (v3 : Nat) : Zj X (fun o : Int32 × Mem => Qr X rm_L_commonSupport.cells rm_L_commonSupport.slots (some (.int o.1)) o.2) 0 0 0 [(0, .ref v0), (1, .int v1), (2, .int v2), (3, .ref v3)] [] M (w_L_commonSupport M v0 v1 v2 v3) := by
  unfold w_L_commonSupport
  refine z_aload_n hX 3 rfl rfl dL_commonSupport_0 ?_
  refine z_iconst (v := 0) hX (by decide) dL_commonSupport_1 ?_
  refine z_aload_n hX 0 rfl rfl dL_commonSupport_2 ?_
  refine z_iload_n hX 1 rfl rfl dL_commonSupport_3 ?_
  refine z_iload_n hX 2 rfl rfl dL_commonSupport_4 ?_
  refine z_cVc 8 (fun v => some (.int v)) [.int v1, .int v2] hX ht (fun l hl o ho => c_X8_commonSupport l hl M v0 v1 v2 o ho) dL_commonSupport_5 (by decide) rfl rfl q_1256 okV_X8_commonSupport rfl ⟨(Nat.le_of_ble_eq_true rfl), (Nat.le_of_ble_eq_true rfl)⟩ rfl (Nat.le_of_ble_eq_true rfl) rfl rfl ⟨(Nat.le_of_ble_eq_true rfl), (Nat.le_of_ble_eq_true rfl)⟩ ⟨by decide, by decide⟩ (by decide) q_997 (fun v M1 => ?_) (fun r M1 => ?_)
  · refine z_i2l hX rfl dL_commonSupport_8 ?_
    refine z_wL hX dL_commonSupport_9 (fun M2 => ?_)
    refine z_goto hX 17 (by decide) dL_commonSupport_10 ?_
    refine z_iconst (v := 0) hX (by decide) dL_commonSupport_17 ?_
    exact z_iretM hX dL_commonSupport_18 (Nat.le_of_ble_eq_true rfl) (Nat.le_of_ble_eq_true rfl)
  · refine z_astore hX [(4, .ref r), (0, .ref v0), (1, .int v1), (2, .int v2), (3, .ref v3)] (by decide) rfl dL_commonSupport_13 ?_
    refine z_iconst (v := 1) hX (by decide) dL_commonSupport_15 ?_
    exact z_iretM hX dL_commonSupport_16 (Nat.le_of_ble_eq_true rfl) (Nat.le_of_ble_eq_true rfl)
theorem cw_L_commonSupport (l : Launch) (hl : l.stackTraces = false) (M : Mem) (v0 : Nat) (v1 : Int32) (v2 : Int32) (v3 : Nat) (o : Int32 × Mem) (ho : w_L_commonSupport M v0 v1 v2 v3 = some o) : Cw l yL_commonSupport cL_commonSupport 5 (some .int) [(0, 10, 13, 13)] rm_L_commonSupport [.ref v0, .int v1, .int v2, .ref v3] M (some (.int o.1)) o.2 :=
  Cw.of hl (by decide +kernel) (Nat.le_of_ble_eq_true rfl) rfl (fun X hX ht => zw_L_commonSupport hX ht M v0 v1 v2 v3 o ho)
theorem okW_L_commonSupport : okW yL_commonSupport cL_commonSupport 5 (some .int) [(0, 10, 13, 13)] 4 := ⟨q_1254, q_85, q_1255, by unfold okY; decide +kernel⟩
/-! priceIn -/
abbrev rm_L_priceIn : Room := { frames := 8, cells := 1, slots := 6, locals := 167 }
set_option maxRecDepth 20000 in
theorem zw_L_priceIn {X : Cxt} (hX : okX X cL_priceIn RL rm_L_priceIn (some .int) 5) (ht : tb X [(0, 10, 13, 13)]) (M : Mem) (v0 : Nat) (v1 : Int32) (v2 : Int32) (v3 : Nat) : Zj X (fun o : Int32 × Mem => Qr X rm_L_priceIn.cells rm_L_priceIn.slots (some (.int o.1)) o.2) 0 0 0 [(0, .ref v0), (1, .int v1), (2, .int v2), (3, .ref v3)] [] M (w_L_priceIn M v0 v1 v2 v3) := by
  unfold w_L_priceIn
  refine z_aload_n hX 3 rfl rfl dL_priceIn_0 ?_
  refine z_iconst (v := 0) hX (by decide) dL_priceIn_1 ?_
  refine z_aload_n hX 0 rfl rfl dL_priceIn_2 ?_
  refine z_iload_n hX 1 rfl rfl dL_priceIn_3 ?_
  refine z_iload_n hX 2 rfl rfl dL_priceIn_4 ?_
  refine z_cVc 8 (fun v => some (.int v)) [.int v1, .int v2] hX ht (fun l hl o ho => c_X8_priceIn l hl M v0 v1 v2 o ho) dL_priceIn_5 (by decide) rfl rfl q_1263 okV_X8_priceIn rfl ⟨(Nat.le_of_ble_eq_true rfl), (Nat.le_of_ble_eq_true rfl)⟩ rfl (Nat.le_of_ble_eq_true rfl) rfl rfl ⟨(Nat.le_of_ble_eq_true rfl), (Nat.le_of_ble_eq_true rfl)⟩ ⟨by decide, by decide⟩ (by decide) q_997 (fun v M1 => ?_) (fun r M1 => ?_)
  · refine z_i2l hX rfl dL_priceIn_8 ?_
    refine z_wL hX dL_priceIn_9 (fun M2 => ?_)
    refine z_goto hX 17 (by decide) dL_priceIn_10 ?_
    refine z_iconst (v := 0) hX (by decide) dL_priceIn_17 ?_
    exact z_iretM hX dL_priceIn_18 (Nat.le_of_ble_eq_true rfl) (Nat.le_of_ble_eq_true rfl)
  · refine z_astore hX [(4, .ref r), (0, .ref v0), (1, .int v1), (2, .int v2), (3, .ref v3)] (by decide) rfl dL_priceIn_13 ?_
    refine z_iconst (v := 1) hX (by decide) dL_priceIn_15 ?_
    exact z_iretM hX dL_priceIn_16 (Nat.le_of_ble_eq_true rfl) (Nat.le_of_ble_eq_true rfl)
theorem cw_L_priceIn (l : Launch) (hl : l.stackTraces = false) (M : Mem) (v0 : Nat) (v1 : Int32) (v2 : Int32) (v3 : Nat) (o : Int32 × Mem) (ho : w_L_priceIn M v0 v1 v2 v3 = some o) : Cw l yL_priceIn cL_priceIn 5 (some .int) [(0, 10, 13, 13)] rm_L_priceIn [.ref v0, .int v1, .int v2, .ref v3] M (some (.int o.1)) o.2 :=
  Cw.of hl (by decide +kernel) (Nat.le_of_ble_eq_true rfl) rfl (fun X hX ht => zw_L_priceIn hX ht M v0 v1 v2 v3 o ho)
theorem okW_L_priceIn : okW yL_priceIn cL_priceIn 5 (some .int) [(0, 10, 13, 13)] 4 := ⟨q_1261, q_85, q_1262, by unfold okY; decide +kernel⟩
/-! fundedWithBudget -/
abbrev rm_L_fundedWithBudget : Room := { frames := 8, cells := 1, slots := 6, locals := 166 }
set_option maxRecDepth 20000 in
theorem zw_L_fundedWithBudget {X : Cxt} (hX : okX X cL_fundedWithBudget RL rm_L_fundedWithBudget (some .int) 5) (ht : tb X [(0, 10, 13, 13)]) (M : Mem) (v0 : Nat) (v1 : Int32) (v2 : Int32) (v3 : Nat) : Zj X (fun o : Int32 × Mem => Qr X rm_L_fundedWithBudget.cells rm_L_fundedWithBudget.slots (some (.int o.1)) o.2) 0 0 0 [(0, .ref v0), (1, .int v1), (2, .int v2), (3, .ref v3)] [] M (w_L_fundedWithBudget M v0 v1 v2 v3) := by
  unfold w_L_fundedWithBudget
  refine z_aload_n hX 3 rfl rfl dL_fundedWithBudget_0 ?_
  refine z_iconst (v := 0) hX (by decide) dL_fundedWithBudget_1 ?_
  refine z_aload_n hX 0 rfl rfl dL_fundedWithBudget_2 ?_
  refine z_iload_n hX 1 rfl rfl dL_fundedWithBudget_3 ?_
  refine z_iload_n hX 2 rfl rfl dL_fundedWithBudget_4 ?_
  refine z_cVc 8 (fun v => some (.int v)) [.int v1, .int v2] hX ht (fun l hl o ho => c_X8_fundedWithBudget l hl M v0 v1 v2 o ho) dL_fundedWithBudget_5 (by decide) rfl rfl q_1270 okV_X8_fundedWithBudget rfl ⟨(Nat.le_of_ble_eq_true rfl), (Nat.le_of_ble_eq_true rfl)⟩ rfl (Nat.le_of_ble_eq_true rfl) rfl rfl ⟨(Nat.le_of_ble_eq_true rfl), (Nat.le_of_ble_eq_true rfl)⟩ ⟨by decide, by decide⟩ (by decide) q_997 (fun v M1 => ?_) (fun r M1 => ?_)
  · refine z_i2l hX rfl dL_fundedWithBudget_8 ?_
    refine z_wL hX dL_fundedWithBudget_9 (fun M2 => ?_)
    refine z_goto hX 17 (by decide) dL_fundedWithBudget_10 ?_
    refine z_iconst (v := 0) hX (by decide) dL_fundedWithBudget_17 ?_
    exact z_iretM hX dL_fundedWithBudget_18 (Nat.le_of_ble_eq_true rfl) (Nat.le_of_ble_eq_true rfl)
  · refine z_astore hX [(4, .ref r), (0, .ref v0), (1, .int v1), (2, .int v2), (3, .ref v3)] (by decide) rfl dL_fundedWithBudget_13 ?_
    refine z_iconst (v := 1) hX (by decide) dL_fundedWithBudget_15 ?_
    exact z_iretM hX dL_fundedWithBudget_16 (Nat.le_of_ble_eq_true rfl) (Nat.le_of_ble_eq_true rfl)
theorem cw_L_fundedWithBudget (l : Launch) (hl : l.stackTraces = false) (M : Mem) (v0 : Nat) (v1 : Int32) (v2 : Int32) (v3 : Nat) (o : Int32 × Mem) (ho : w_L_fundedWithBudget M v0 v1 v2 v3 = some o) : Cw l yL_fundedWithBudget cL_fundedWithBudget 5 (some .int) [(0, 10, 13, 13)] rm_L_fundedWithBudget [.ref v0, .int v1, .int v2, .ref v3] M (some (.int o.1)) o.2 :=
  Cw.of hl (by decide +kernel) (Nat.le_of_ble_eq_true rfl) rfl (fun X hX ht => zw_L_fundedWithBudget hX ht M v0 v1 v2 v3 o ho)
theorem okW_L_fundedWithBudget : okW yL_fundedWithBudget cL_fundedWithBudget 5 (some .int) [(0, 10, 13, 13)] 4 := ⟨q_1268, q_85, q_1269, by unfold okY; decide +kernel⟩
/-! fundedWithCost -/
abbrev rm_L_fundedWithCost : Room := { frames := 8, cells := 1, slots := 6, locals := 166 }
set_option maxRecDepth 20000 in
theorem zw_L_fundedWithCost {X : Cxt} (hX : okX X cL_fundedWithCost RL rm_L_fundedWithCost (some .int) 5) (ht : tb X [(0, 10, 13, 13)]) (M : Mem) (v0 : Nat) (v1 : Int32) (v2 : Int32) (v3 : Nat) : Zj X (fun o : Int32 × Mem => Qr X rm_L_fundedWithCost.cells rm_L_fundedWithCost.slots (some (.int o.1)) o.2) 0 0 0 [(0, .ref v0), (1, .int v1), (2, .int v2), (3, .ref v3)] [] M (w_L_fundedWithCost M v0 v1 v2 v3) := by
  unfold w_L_fundedWithCost
  refine z_aload_n hX 3 rfl rfl dL_fundedWithCost_0 ?_
  refine z_iconst (v := 0) hX (by decide) dL_fundedWithCost_1 ?_
  refine z_aload_n hX 0 rfl rfl dL_fundedWithCost_2 ?_
  refine z_iload_n hX 1 rfl rfl dL_fundedWithCost_3 ?_
  refine z_iload_n hX 2 rfl rfl dL_fundedWithCost_4 ?_
  refine z_cVc 8 (fun v => some (.int v)) [.int v1, .int v2] hX ht (fun l hl o ho => c_X8_fundedWithCost l hl M v0 v1 v2 o ho) dL_fundedWithCost_5 (by decide) rfl rfl q_1277 okV_X8_fundedWithCost rfl ⟨(Nat.le_of_ble_eq_true rfl), (Nat.le_of_ble_eq_true rfl)⟩ rfl (Nat.le_of_ble_eq_true rfl) rfl rfl ⟨(Nat.le_of_ble_eq_true rfl), (Nat.le_of_ble_eq_true rfl)⟩ ⟨by decide, by decide⟩ (by decide) q_997 (fun v M1 => ?_) (fun r M1 => ?_)
  · refine z_i2l hX rfl dL_fundedWithCost_8 ?_
    refine z_wL hX dL_fundedWithCost_9 (fun M2 => ?_)
    refine z_goto hX 17 (by decide) dL_fundedWithCost_10 ?_
    refine z_iconst (v := 0) hX (by decide) dL_fundedWithCost_17 ?_
    exact z_iretM hX dL_fundedWithCost_18 (Nat.le_of_ble_eq_true rfl) (Nat.le_of_ble_eq_true rfl)
  · refine z_astore hX [(4, .ref r), (0, .ref v0), (1, .int v1), (2, .int v2), (3, .ref v3)] (by decide) rfl dL_fundedWithCost_13 ?_
    refine z_iconst (v := 1) hX (by decide) dL_fundedWithCost_15 ?_
    exact z_iretM hX dL_fundedWithCost_16 (Nat.le_of_ble_eq_true rfl) (Nat.le_of_ble_eq_true rfl)
theorem cw_L_fundedWithCost (l : Launch) (hl : l.stackTraces = false) (M : Mem) (v0 : Nat) (v1 : Int32) (v2 : Int32) (v3 : Nat) (o : Int32 × Mem) (ho : w_L_fundedWithCost M v0 v1 v2 v3 = some o) : Cw l yL_fundedWithCost cL_fundedWithCost 5 (some .int) [(0, 10, 13, 13)] rm_L_fundedWithCost [.ref v0, .int v1, .int v2, .ref v3] M (some (.int o.1)) o.2 :=
  Cw.of hl (by decide +kernel) (Nat.le_of_ble_eq_true rfl) rfl (fun X hX ht => zw_L_fundedWithCost hX ht M v0 v1 v2 v3 o ho)
theorem okW_L_fundedWithCost : okW yL_fundedWithCost cL_fundedWithCost 5 (some .int) [(0, 10, 13, 13)] 4 := ⟨q_1275, q_85, q_1276, by unfold okY; decide +kernel⟩
/-! fundedWithout -/
abbrev rm_L_fundedWithout : Room := { frames := 8, cells := 1, slots := 6, locals := 166 }
set_option maxRecDepth 20000 in
theorem zw_L_fundedWithout {X : Cxt} (hX : okX X cL_fundedWithout RL rm_L_fundedWithout (some .int) 4) (ht : tb X [(0, 9, 12, 13)]) (M : Mem) (v0 : Nat) (v1 : Int32) (v2 : Nat) : Zj X (fun o : Int32 × Mem => Qr X rm_L_fundedWithout.cells rm_L_fundedWithout.slots (some (.int o.1)) o.2) 0 0 0 [(0, .ref v0), (1, .int v1), (2, .ref v2)] [] M (w_L_fundedWithout M v0 v1 v2) := by
  unfold w_L_fundedWithout
  refine z_aload_n hX 2 rfl rfl dL_fundedWithout_0 ?_
  refine z_iconst (v := 0) hX (by decide) dL_fundedWithout_1 ?_
  refine z_aload_n hX 0 rfl rfl dL_fundedWithout_2 ?_
  refine z_iload_n hX 1 rfl rfl dL_fundedWithout_3 ?_
  refine z_cVc 8 (fun v => some (.int v)) [.int v1] hX ht (fun l hl o ho => c_X8_fundedWithout l hl M v0 v1 o ho) dL_fundedWithout_4 (by decide) rfl rfl q_1284 okV_X8_fundedWithout rfl ⟨(Nat.le_of_ble_eq_true rfl), (Nat.le_of_ble_eq_true rfl)⟩ rfl (Nat.le_of_ble_eq_true rfl) rfl rfl ⟨(Nat.le_of_ble_eq_true rfl), (Nat.le_of_ble_eq_true rfl)⟩ ⟨by decide, by decide⟩ (by decide) q_997 (fun v M1 => ?_) (fun r M1 => ?_)
  · refine z_i2l hX rfl dL_fundedWithout_7 ?_
    refine z_wL hX dL_fundedWithout_8 (fun M2 => ?_)
    refine z_goto hX 15 (by decide) dL_fundedWithout_9 ?_
    refine z_iconst (v := 0) hX (by decide) dL_fundedWithout_15 ?_
    exact z_iretM hX dL_fundedWithout_16 (Nat.le_of_ble_eq_true rfl) (Nat.le_of_ble_eq_true rfl)
  · refine z_astore_n hX [(3, .ref r), (0, .ref v0), (1, .int v1), (2, .ref v2)] rfl (by decide) rfl dL_fundedWithout_12 ?_
    refine z_iconst (v := 1) hX (by decide) dL_fundedWithout_13 ?_
    exact z_iretM hX dL_fundedWithout_14 (Nat.le_of_ble_eq_true rfl) (Nat.le_of_ble_eq_true rfl)
theorem cw_L_fundedWithout (l : Launch) (hl : l.stackTraces = false) (M : Mem) (v0 : Nat) (v1 : Int32) (v2 : Nat) (o : Int32 × Mem) (ho : w_L_fundedWithout M v0 v1 v2 = some o) : Cw l yL_fundedWithout cL_fundedWithout 4 (some .int) [(0, 9, 12, 13)] rm_L_fundedWithout [.ref v0, .int v1, .ref v2] M (some (.int o.1)) o.2 :=
  Cw.of hl (by decide +kernel) (Nat.le_of_ble_eq_true rfl) rfl (fun X hX ht => zw_L_fundedWithout hX ht M v0 v1 v2 o ho)
theorem okW_L_fundedWithout : okW yL_fundedWithout cL_fundedWithout 4 (some .int) [(0, 9, 12, 13)] 3 := ⟨q_1282, q_85, q_1283, by unfold okY; decide +kernel⟩
/-! districtWelfare -/
abbrev rm_L_districtWelfare : Room := { frames := 8, cells := 1, slots := 6, locals := 190 }
set_option maxRecDepth 20000 in
theorem zw_L_districtWelfare {X : Cxt} (hX : okX X cL_districtWelfare RL rm_L_districtWelfare (some .int) 5) (ht : tb X [(0, 10, 13, 13)]) (M : Mem) (v0 : Nat) (v1 : Int32) (v2 : Int32) (v3 : Nat) : Zj X (fun o : Int32 × Mem => Qr X rm_L_districtWelfare.cells rm_L_districtWelfare.slots (some (.int o.1)) o.2) 0 0 0 [(0, .ref v0), (1, .int v1), (2, .int v2), (3, .ref v3)] [] M (w_L_districtWelfare M v0 v1 v2 v3) := by
  unfold w_L_districtWelfare
  refine z_aload_n hX 3 rfl rfl dL_districtWelfare_0 ?_
  refine z_iconst (v := 0) hX (by decide) dL_districtWelfare_1 ?_
  refine z_aload_n hX 0 rfl rfl dL_districtWelfare_2 ?_
  refine z_iload_n hX 1 rfl rfl dL_districtWelfare_3 ?_
  refine z_iload_n hX 2 rfl rfl dL_districtWelfare_4 ?_
  refine z_cVc 8 (fun v => some (.int v)) [.int v1, .int v2] hX ht (fun l hl o ho => c_X8_districtWelfare l hl M v0 v1 v2 o ho) dL_districtWelfare_5 (by decide) rfl rfl q_1291 okV_X8_districtWelfare rfl ⟨(Nat.le_of_ble_eq_true rfl), (Nat.le_of_ble_eq_true rfl)⟩ rfl (Nat.le_of_ble_eq_true rfl) rfl rfl ⟨(Nat.le_of_ble_eq_true rfl), (Nat.le_of_ble_eq_true rfl)⟩ ⟨by decide, by decide⟩ (by decide) q_997 (fun v M1 => ?_) (fun r M1 => ?_)
  · refine z_i2l hX rfl dL_districtWelfare_8 ?_
    refine z_wL hX dL_districtWelfare_9 (fun M2 => ?_)
    refine z_goto hX 17 (by decide) dL_districtWelfare_10 ?_
    refine z_iconst (v := 0) hX (by decide) dL_districtWelfare_17 ?_
    exact z_iretM hX dL_districtWelfare_18 (Nat.le_of_ble_eq_true rfl) (Nat.le_of_ble_eq_true rfl)
  · refine z_astore hX [(4, .ref r), (0, .ref v0), (1, .int v1), (2, .int v2), (3, .ref v3)] (by decide) rfl dL_districtWelfare_13 ?_
    refine z_iconst (v := 1) hX (by decide) dL_districtWelfare_15 ?_
    exact z_iretM hX dL_districtWelfare_16 (Nat.le_of_ble_eq_true rfl) (Nat.le_of_ble_eq_true rfl)
theorem cw_L_districtWelfare (l : Launch) (hl : l.stackTraces = false) (M : Mem) (v0 : Nat) (v1 : Int32) (v2 : Int32) (v3 : Nat) (o : Int32 × Mem) (ho : w_L_districtWelfare M v0 v1 v2 v3 = some o) : Cw l yL_districtWelfare cL_districtWelfare 5 (some .int) [(0, 10, 13, 13)] rm_L_districtWelfare [.ref v0, .int v1, .int v2, .ref v3] M (some (.int o.1)) o.2 :=
  Cw.of hl (by decide +kernel) (Nat.le_of_ble_eq_true rfl) rfl (fun X hX ht => zw_L_districtWelfare hX ht M v0 v1 v2 v3 o ho)
theorem okW_L_districtWelfare : okW yL_districtWelfare cL_districtWelfare 5 (some .int) [(0, 10, 13, 13)] 4 := ⟨q_1289, q_85, q_1290, by unfold okY; decide +kernel⟩
/-! rankOf -/
abbrev rm_L_rankOf : Room := { frames := 8, cells := 1, slots := 6, locals := 192 }
set_option maxRecDepth 20000 in
theorem zw_L_rankOf {X : Cxt} (hX : okX X cL_rankOf RL rm_L_rankOf (some .int) 5) (ht : tb X [(0, 10, 13, 13)]) (M : Mem) (v0 : Nat) (v1 : Int32) (v2 : Int32) (v3 : Nat) : Zj X (fun o : Int32 × Mem => Qr X rm_L_rankOf.cells rm_L_rankOf.slots (some (.int o.1)) o.2) 0 0 0 [(0, .ref v0), (1, .int v1), (2, .int v2), (3, .ref v3)] [] M (w_L_rankOf M v0 v1 v2 v3) := by
  unfold w_L_rankOf
  refine z_aload_n hX 3 rfl rfl dL_rankOf_0 ?_
  refine z_iconst (v := 0) hX (by decide) dL_rankOf_1 ?_
  refine z_aload_n hX 0 rfl rfl dL_rankOf_2 ?_
  refine z_iload_n hX 1 rfl rfl dL_rankOf_3 ?_
  refine z_iload_n hX 2 rfl rfl dL_rankOf_4 ?_
  refine z_cVc 8 (fun v => some (.int v)) [.int v1, .int v2] hX ht (fun l hl o ho => c_X8_rankOf l hl M v0 v1 v2 o ho) dL_rankOf_5 (by decide) rfl rfl q_1298 okV_X8_rankOf rfl ⟨(Nat.le_of_ble_eq_true rfl), (Nat.le_of_ble_eq_true rfl)⟩ rfl (Nat.le_of_ble_eq_true rfl) rfl rfl ⟨(Nat.le_of_ble_eq_true rfl), (Nat.le_of_ble_eq_true rfl)⟩ ⟨by decide, by decide⟩ (by decide) q_997 (fun v M1 => ?_) (fun r M1 => ?_)
  · refine z_i2l hX rfl dL_rankOf_8 ?_
    refine z_wL hX dL_rankOf_9 (fun M2 => ?_)
    refine z_goto hX 17 (by decide) dL_rankOf_10 ?_
    refine z_iconst (v := 0) hX (by decide) dL_rankOf_17 ?_
    exact z_iretM hX dL_rankOf_18 (Nat.le_of_ble_eq_true rfl) (Nat.le_of_ble_eq_true rfl)
  · refine z_astore hX [(4, .ref r), (0, .ref v0), (1, .int v1), (2, .int v2), (3, .ref v3)] (by decide) rfl dL_rankOf_13 ?_
    refine z_iconst (v := 1) hX (by decide) dL_rankOf_15 ?_
    exact z_iretM hX dL_rankOf_16 (Nat.le_of_ble_eq_true rfl) (Nat.le_of_ble_eq_true rfl)
theorem cw_L_rankOf (l : Launch) (hl : l.stackTraces = false) (M : Mem) (v0 : Nat) (v1 : Int32) (v2 : Int32) (v3 : Nat) (o : Int32 × Mem) (ho : w_L_rankOf M v0 v1 v2 v3 = some o) : Cw l yL_rankOf cL_rankOf 5 (some .int) [(0, 10, 13, 13)] rm_L_rankOf [.ref v0, .int v1, .int v2, .ref v3] M (some (.int o.1)) o.2 :=
  Cw.of hl (by decide +kernel) (Nat.le_of_ble_eq_true rfl) rfl (fun X hX ht => zw_L_rankOf hX ht M v0 v1 v2 v3 o ho)
theorem okW_L_rankOf : okW yL_rankOf cL_rankOf 5 (some .int) [(0, 10, 13, 13)] 4 := ⟨q_1296, q_85, q_1297, by unfold okY; decide +kernel⟩

theorem sw_7_14 (x : Int32) : (x.toInt < 7 ∨ 14 < x.toInt) ∨ x = 7 ∨ x = 8 ∨ x = 9 ∨ x = 10 ∨ x = 11 ∨ x = 12 ∨ x = 13 ∨ x = 14 := by
  by_cases h : x.toInt < 7 ∨ 14 < x.toInt
  · exact Or.inl h
  · have h2 : x.toInt = 7 ∨ x.toInt = 8 ∨ x.toInt = 9 ∨ x.toInt = 10 ∨ x.toInt = 11 ∨ x.toInt = 12 ∨ x.toInt = 13 ∨ x.toInt = 14 := by omega
    refine Or.inr ?_
    rcases h2 with h | h | h | h | h | h | h | h
    · exact Or.inl (Int32.toInt_inj.mp (h.trans (by decide)))
    · exact Or.inr (Or.inl (Int32.toInt_inj.mp (h.trans (by decide))))
    · exact Or.inr (Or.inr (Or.inl (Int32.toInt_inj.mp (h.trans (by decide)))))
    · exact Or.inr (Or.inr (Or.inr (Or.inl (Int32.toInt_inj.mp (h.trans (by decide))))))
    · exact Or.inr (Or.inr (Or.inr (Or.inr (Or.inl (Int32.toInt_inj.mp (h.trans (by decide)))))))
    · exact Or.inr (Or.inr (Or.inr (Or.inr (Or.inr (Or.inl (Int32.toInt_inj.mp (h.trans (by decide))))))))
    · exact Or.inr (Or.inr (Or.inr (Or.inr (Or.inr (Or.inr (Or.inl (Int32.toInt_inj.mp (h.trans (by decide)))))))))
    · exact Or.inr (Or.inr (Or.inr (Or.inr (Or.inr (Or.inr (Or.inr (Int32.toInt_inj.mp (h.trans (by decide)))))))))
theorem swo_7_14 {x : Int32} (h : x.toInt < 7 ∨ 14 < x.toInt) : ¬ x = 7 ∧ ¬ x = 8 ∧ ¬ x = 9 ∧ ¬ x = 10 ∧ ¬ x = 11 ∧ ¬ x = 12 ∧ ¬ x = 13 ∧ ¬ x = 14 := by
  refine ⟨?_, ?_, ?_, ?_, ?_, ?_, ?_, ?_⟩ <;> (intro e; rw [e] at h; revert h; decide)

theorem mG_33 : Cond.selects "LazyForge$Lifter" yX2_numberFunctions yX2_numberFunctions ∈ uG := uG_at 33 (by decide +kernel) (by decide +kernel)
theorem mG_34 : Cond.selects "LazyForge$Lifter" yX2_resolveUses yX2_resolveUses ∈ uG := uG_at 34 (by decide +kernel) (by decide +kernel)
theorem mG_35 : Cond.selects "LazyForge$Lifter" yX2_refuse yX2_refuse ∈ uG := uG_at 35 (by decide +kernel) (by decide +kernel)
theorem mG_36 : Cond.selects "LazyForge$Lifter" yX2_findFree yX2_findFree ∈ uG := uG_at 36 (by decide +kernel) (by decide +kernel)
theorem mG_37 : Cond.selects "LazyForge$Lifter" yX2_passThrough yX2_passThrough ∈ uG := uG_at 37 (by decide +kernel) (by decide +kernel)
theorem mG_38 : Cond.selects "LazyForge$Lifter" yX2_addFree yX2_addFree ∈ uG := uG_at 38 (by decide +kernel) (by decide +kernel)
theorem mG_39 : Cond.selects "LazyForge$Lifter" yX2_freeIndex yX2_freeIndex ∈ uG := uG_at 39 (by decide +kernel) (by decide +kernel)
theorem mG_40 : Cond.selects "LazyForge$Lifter" yX2_refuseManyParameters yX2_refuseManyParameters ∈ uG := uG_at 40 (by decide +kernel) (by decide +kernel)
theorem mG_41 : Cond.selects "LazyForge$Lifter" yX2_findMain yX2_findMain ∈ uG := uG_at 41 (by decide +kernel) (by decide +kernel)
theorem mG_42 : Cond.selects "LazyForge$Lifter" yX2_numberVariables yX2_numberVariables ∈ uG := uG_at 42 (by decide +kernel) (by decide +kernel)
theorem mG_43 : Cond.selects "LazyForge$Lifter" yX2_plantUses yX2_plantUses ∈ uG := uG_at 43 (by decide +kernel) (by decide +kernel)
theorem mG_44 : Cond.selects "LazyForge$Lifter" yX2_numberIn yX2_numberIn ∈ uG := uG_at 44 (by decide +kernel) (by decide +kernel)
theorem mG_45 : Cond.selects "LazyForge$Lifter" yX2_plantNodes yX2_plantNodes ∈ uG := uG_at 45 (by decide +kernel) (by decide +kernel)
theorem mG_46 : Cond.selects "LazyForge$Lifter" yX2_plantNode yX2_plantNode ∈ uG := uG_at 46 (by decide +kernel) (by decide +kernel)
theorem mG_47 : Cond.selects "LazyForge$Lifter" yX2_plantLifted yX2_plantLifted ∈ uG := uG_at 47 (by decide +kernel) (by decide +kernel)
theorem mG_48 : Cond.selects "LazyForge$Lifter" yX2_plantLeaf yX2_plantLeaf ∈ uG := uG_at 48 (by decide +kernel) (by decide +kernel)
theorem mG_49 : Cond.selects "LazyForge$Lifter" yX2_keepMeasures yX2_keepMeasures ∈ uG := uG_at 49 (by decide +kernel) (by decide +kernel)
theorem mG_287 : Cond.fieldLink "LazyForge$Lifter" 190 "LazyForge$Program" "fields" "[I" ∈ uG := uG_at 287 (by decide +kernel) (by decide +kernel)
theorem mG_297 : Cond.fieldLink "LazyForge$Lifter" 57 "LazyForge$Program" "tops" "I" ∈ uG := uG_at 297 (by decide +kernel) (by decide +kernel)
theorem mG_302 : Cond.fieldLink "LazyForge$Lifter" 85 "LazyForge$Program" "functions" "I" ∈ uG := uG_at 302 (by decide +kernel) (by decide +kernel)
theorem mG_307 : Cond.fieldLink "LazyForge$Lifter" 150 "LazyForge$Program" "main" "I" ∈ uG := uG_at 307 (by decide +kernel) (by decide +kernel)
theorem mG_312 : Cond.fieldLink "LazyForge$Lifter" 139 "LazyForge$Program" "parameters" "[I" ∈ uG := uG_at 312 (by decide +kernel) (by decide +kernel)
theorem mG_315 : Cond.fieldLink "LazyForge$Lifter" 133 "LazyForge$Program" "frees" "[I" ∈ uG := uG_at 315 (by decide +kernel) (by decide +kernel)
theorem mG_317 : Cond.fieldLink "LazyForge$Lifter" 136 "LazyForge$Program" "free" "[I" ∈ uG := uG_at 317 (by decide +kernel) (by decide +kernel)
theorem mG_321 : Cond.fieldLink "LazyForge$Lifter" 156 "LazyForge$Program" "variables" "[I" ∈ uG := uG_at 321 (by decide +kernel) (by decide +kernel)
theorem mG_325 : Cond.fieldLink "LazyForge$Lifter" 88 "LazyForge$Program" "root" "[I" ∈ uG := uG_at 325 (by decide +kernel) (by decide +kernel)
theorem mG_328 : Cond.fieldLink "LazyForge$Lifter" 68 "LazyForge$Program" "scope" "[I" ∈ uG := uG_at 328 (by decide +kernel) (by decide +kernel)
theorem mG_330 : Cond.fieldLink "LazyForge$Lifter" 214 "LazyForge$Program" "parts" "[I" ∈ uG := uG_at 330 (by decide +kernel) (by decide +kernel)
theorem mG_332 : Cond.fieldLink "LazyForge$Lifter" 218 "LazyForge$Program" "height" "[I" ∈ uG := uG_at 332 (by decide +kernel) (by decide +kernel)
theorem mG_384 : Cond.fieldLink "LazyForge$Lifter" 181 "LazyForge$Tree" "kind" "[I" ∈ uG := uG_at 384 (by decide +kernel) (by decide +kernel)
theorem mG_389 : Cond.fieldLink "LazyForge$Lifter" 193 "LazyForge$Tree" "value" "[I" ∈ uG := uG_at 389 (by decide +kernel) (by decide +kernel)
theorem mG_393 : Cond.fieldLink "LazyForge$Lifter" 199 "LazyForge$Tree" "slot" "[I" ∈ uG := uG_at 393 (by decide +kernel) (by decide +kernel)
theorem mG_399 : Cond.fieldLink "LazyForge$Lifter" 184 "LazyForge$Tree" "kid" "[I" ∈ uG := uG_at 399 (by decide +kernel) (by decide +kernel)
theorem mG_404 : Cond.fieldLink "LazyForge$Lifter" 208 "LazyForge$Tree" "next" "[I" ∈ uG := uG_at 404 (by decide +kernel) (by decide +kernel)
theorem mG_407 : Cond.fieldLink "LazyForge$Lifter" 221 "LazyForge$Tree" "height" "[I" ∈ uG := uG_at 407 (by decide +kernel) (by decide +kernel)
theorem mG_409 : Cond.fieldLink "LazyForge$Lifter" 217 "LazyForge$Tree" "parts" "[I" ∈ uG := uG_at 409 (by decide +kernel) (by decide +kernel)
theorem mG_415 : Cond.fieldLink "LazyForge$Lifter" 176 "LazyForge$Tree" "count" "I" ∈ uG := uG_at 415 (by decide +kernel) (by decide +kernel)
theorem mG_443 : Cond.fieldLink "LazyForge$Lifter" 142 "LazyForge$Scopes" "names" "[I" ∈ uG := uG_at 443 (by decide +kernel) (by decide +kernel)
theorem mG_446 : Cond.fieldLink "LazyForge$Lifter" 78 "LazyForge$Scopes" "parent" "[I" ∈ uG := uG_at 446 (by decide +kernel) (by decide +kernel)
theorem mG_448 : Cond.fieldLink "LazyForge$Lifter" 120 "LazyForge$Scopes" "owner" "[I" ∈ uG := uG_at 448 (by decide +kernel) (by decide +kernel)
theorem mG_450 : Cond.fieldLink "LazyForge$Lifter" 91 "LazyForge$Scopes" "root" "[I" ∈ uG := uG_at 450 (by decide +kernel) (by decide +kernel)
theorem mG_453 : Cond.fieldLink "LazyForge$Lifter" 145 "LazyForge$Scopes" "place" "[I" ∈ uG := uG_at 453 (by decide +kernel) (by decide +kernel)
theorem mG_455 : Cond.fieldLink "LazyForge$Lifter" 153 "LazyForge$Scopes" "base" "[I" ∈ uG := uG_at 455 (by decide +kernel) (by decide +kernel)
theorem mG_457 : Cond.fieldLink "LazyForge$Lifter" 62 "LazyForge$Scopes" "number" "[I" ∈ uG := uG_at 457 (by decide +kernel) (by decide +kernel)
theorem mG_459 : Cond.fieldLink "LazyForge$Lifter" 71 "LazyForge$Scopes" "count" "I" ∈ uG := uG_at 459 (by decide +kernel) (by decide +kernel)
theorem mG_461 : Cond.fieldLink "LazyForge$Lifter" 98 "LazyForge$Scopes" "useName" "[J" ∈ uG := uG_at 461 (by decide +kernel) (by decide +kernel)
theorem mG_463 : Cond.fieldLink "LazyForge$Lifter" 95 "LazyForge$Scopes" "useScope" "[I" ∈ uG := uG_at 463 (by decide +kernel) (by decide +kernel)
theorem mG_465 : Cond.fieldLink "LazyForge$Lifter" 110 "LazyForge$Scopes" "usePlace" "[I" ∈ uG := uG_at 465 (by decide +kernel) (by decide +kernel)
theorem mG_467 : Cond.fieldLink "LazyForge$Lifter" 164 "LazyForge$Scopes" "useNode" "[I" ∈ uG := uG_at 467 (by decide +kernel) (by decide +kernel)
theorem mG_469 : Cond.fieldLink "LazyForge$Lifter" 117 "LazyForge$Scopes" "useTarget" "[I" ∈ uG := uG_at 469 (by decide +kernel) (by decide +kernel)
theorem mG_471 : Cond.fieldLink "LazyForge$Lifter" 92 "LazyForge$Scopes" "uses" "I" ∈ uG := uG_at 471 (by decide +kernel) (by decide +kernel)
theorem mG_578 : Cond.fieldLink "LazyForge$Lifter" 23 "LazyForge$Lifter" "faultKind" "I" ∈ uG := uG_at 578 (by decide +kernel) (by decide +kernel)
theorem mG_580 : Cond.fieldLink "LazyForge$Lifter" 27 "LazyForge$Lifter" "faultPlace" "I" ∈ uG := uG_at 580 (by decide +kernel) (by decide +kernel)
theorem mG_1213 : Cond.methodLink "LazyForge$Lifter" 30 yX2_numberFunctions ∈ uG := uG_at 1213 (by decide +kernel) (by decide +kernel)
theorem mG_1215 : Cond.instanceMethod yX2_numberFunctions ∈ uG := uG_at 1215 (by decide +kernel) (by decide +kernel)
theorem mG_1216 : Cond.code yX2_numberFunctions prog_4_method_4_code 2 none ∈ uG := uG_at 1216 (by decide +kernel) (by decide +kernel)
theorem mG_1217 : Cond.methodLink "LazyForge$Lifter" 74 yX6_owns ∈ uG := uG_at 1217 (by decide +kernel) (by decide +kernel)
theorem mG_1218 : Cond.instanceMethod yX6_owns ∈ uG := uG_at 1218 (by decide +kernel) (by decide +kernel)
theorem mG_1219 : Cond.selects "LazyForge$Scopes" yX6_owns yX6_owns ∈ uG := uG_at 1219 (by decide +kernel) (by decide +kernel)
theorem mG_1220 : Cond.code yX6_owns prog_8_method_4_code 2 (some .boolean) ∈ uG := uG_at 1220 (by decide +kernel) (by decide +kernel)
theorem mG_1221 : Cond.methodLink "LazyForge$Lifter" 81 yX4_addFunction ∈ uG := uG_at 1221 (by decide +kernel) (by decide +kernel)
theorem mG_1222 : Cond.methodLink "LazyForge$Lifter" 33 yX2_resolveUses ∈ uG := uG_at 1222 (by decide +kernel) (by decide +kernel)
theorem mG_1224 : Cond.instanceMethod yX2_resolveUses ∈ uG := uG_at 1224 (by decide +kernel) (by decide +kernel)
theorem mG_1225 : Cond.code yX2_resolveUses prog_4_method_5_code 4 none ∈ uG := uG_at 1225 (by decide +kernel) (by decide +kernel)
theorem mG_1226 : Cond.methodLink "LazyForge$Lifter" 102 yX6_find ∈ uG := uG_at 1226 (by decide +kernel) (by decide +kernel)
theorem mG_1227 : Cond.instanceMethod yX6_find ∈ uG := uG_at 1227 (by decide +kernel) (by decide +kernel)
theorem mG_1228 : Cond.selects "LazyForge$Scopes" yX6_find yX6_find ∈ uG := uG_at 1228 (by decide +kernel) (by decide +kernel)
theorem mG_1229 : Cond.code yX6_find prog_8_method_8_code 7 (some .int) ∈ uG := uG_at 1229 (by decide +kernel) (by decide +kernel)
theorem mG_1230 : Cond.methodLink "LazyForge$Lifter" 106 yX4_topOf ∈ uG := uG_at 1230 (by decide +kernel) (by decide +kernel)
theorem mG_1231 : Cond.methodLink "LazyForge$Lifter" 113 yX2_refuse ∈ uG := uG_at 1231 (by decide +kernel) (by decide +kernel)
theorem mG_1233 : Cond.instanceMethod yX2_refuse ∈ uG := uG_at 1233 (by decide +kernel) (by decide +kernel)
theorem mG_1234 : Cond.code yX2_refuse prog_4_method_3_code 3 none ∈ uG := uG_at 1234 (by decide +kernel) (by decide +kernel)
theorem mG_1235 : Cond.methodLink "LazyForge$Lifter" 36 yX2_findFree ∈ uG := uG_at 1235 (by decide +kernel) (by decide +kernel)
theorem mG_1237 : Cond.instanceMethod yX2_findFree ∈ uG := uG_at 1237 (by decide +kernel) (by decide +kernel)
theorem mG_1238 : Cond.code yX2_findFree prog_4_method_6_code 3 none ∈ uG := uG_at 1238 (by decide +kernel) (by decide +kernel)
theorem mG_1239 : Cond.methodLink "LazyForge$Lifter" 123 yX2_passThrough ∈ uG := uG_at 1239 (by decide +kernel) (by decide +kernel)
theorem mG_1241 : Cond.instanceMethod yX2_passThrough ∈ uG := uG_at 1241 (by decide +kernel) (by decide +kernel)
theorem mG_1242 : Cond.code yX2_passThrough prog_4_method_7_code 6 none ∈ uG := uG_at 1242 (by decide +kernel) (by decide +kernel)
theorem mG_1243 : Cond.methodLink "LazyForge$Lifter" 126 yX2_addFree ∈ uG := uG_at 1243 (by decide +kernel) (by decide +kernel)
theorem mG_1245 : Cond.instanceMethod yX2_addFree ∈ uG := uG_at 1245 (by decide +kernel) (by decide +kernel)
theorem mG_1246 : Cond.code yX2_addFree prog_4_method_8_code 3 none ∈ uG := uG_at 1246 (by decide +kernel) (by decide +kernel)
theorem mG_1247 : Cond.methodLink "LazyForge$Lifter" 129 yX2_freeIndex ∈ uG := uG_at 1247 (by decide +kernel) (by decide +kernel)
theorem mG_1249 : Cond.instanceMethod yX2_freeIndex ∈ uG := uG_at 1249 (by decide +kernel) (by decide +kernel)
theorem mG_1250 : Cond.code yX2_freeIndex prog_4_method_9_code 4 (some .int) ∈ uG := uG_at 1250 (by decide +kernel) (by decide +kernel)
theorem mG_1251 : Cond.methodLink "LazyForge$Lifter" 39 yX2_refuseManyParameters ∈ uG := uG_at 1251 (by decide +kernel) (by decide +kernel)
theorem mG_1253 : Cond.instanceMethod yX2_refuseManyParameters ∈ uG := uG_at 1253 (by decide +kernel) (by decide +kernel)
theorem mG_1254 : Cond.code yX2_refuseManyParameters prog_4_method_10_code 3 none ∈ uG := uG_at 1254 (by decide +kernel) (by decide +kernel)
theorem mG_1255 : Cond.methodLink "LazyForge$Lifter" 42 yX2_findMain ∈ uG := uG_at 1255 (by decide +kernel) (by decide +kernel)
theorem mG_1257 : Cond.instanceMethod yX2_findMain ∈ uG := uG_at 1257 (by decide +kernel) (by decide +kernel)
theorem mG_1258 : Cond.code yX2_findMain prog_4_method_11_code 1 none ∈ uG := uG_at 1258 (by decide +kernel) (by decide +kernel)
theorem mG_1259 : Cond.constantLong "LazyForge$Lifter" 148 1835100526 ∈ uG := uG_at 1259 (by decide +kernel) (by decide +kernel)
theorem mG_1260 : Cond.methodLink "LazyForge$Lifter" 45 yX2_numberVariables ∈ uG := uG_at 1260 (by decide +kernel) (by decide +kernel)
theorem mG_1262 : Cond.instanceMethod yX2_numberVariables ∈ uG := uG_at 1262 (by decide +kernel) (by decide +kernel)
theorem mG_1263 : Cond.code yX2_numberVariables prog_4_method_12_code 3 none ∈ uG := uG_at 1263 (by decide +kernel) (by decide +kernel)
theorem mG_1264 : Cond.methodLink "LazyForge$Lifter" 48 yX2_plantUses ∈ uG := uG_at 1264 (by decide +kernel) (by decide +kernel)
theorem mG_1266 : Cond.instanceMethod yX2_plantUses ∈ uG := uG_at 1266 (by decide +kernel) (by decide +kernel)
theorem mG_1267 : Cond.code yX2_plantUses prog_4_method_14_code 5 none ∈ uG := uG_at 1267 (by decide +kernel) (by decide +kernel)
theorem mG_1268 : Cond.methodLink "LazyForge$Lifter" 167 yX9_change ∈ uG := uG_at 1268 (by decide +kernel) (by decide +kernel)
theorem mG_1269 : Cond.instanceMethod yX9_change ∈ uG := uG_at 1269 (by decide +kernel) (by decide +kernel)
theorem mG_1270 : Cond.selects "LazyForge$Tree" yX9_change yX9_change ∈ uG := uG_at 1270 (by decide +kernel) (by decide +kernel)
theorem mG_1271 : Cond.code yX9_change prog_11_method_5_code 4 none ∈ uG := uG_at 1271 (by decide +kernel) (by decide +kernel)
theorem mG_1272 : Cond.methodLink "LazyForge$Lifter" 173 yX2_numberIn ∈ uG := uG_at 1272 (by decide +kernel) (by decide +kernel)
theorem mG_1274 : Cond.instanceMethod yX2_numberIn ∈ uG := uG_at 1274 (by decide +kernel) (by decide +kernel)
theorem mG_1275 : Cond.code yX2_numberIn prog_4_method_13_code 4 (some .int) ∈ uG := uG_at 1275 (by decide +kernel) (by decide +kernel)
theorem mG_1276 : Cond.methodLink "LazyForge$Lifter" 159 yJ9_max_7cf53 ∈ uG := uG_at 1276 (by decide +kernel) (by decide +kernel)
theorem mG_1277 : Cond.methodLink "LazyForge$Lifter" 51 yX2_plantNodes ∈ uG := uG_at 1277 (by decide +kernel) (by decide +kernel)
theorem mG_1279 : Cond.instanceMethod yX2_plantNodes ∈ uG := uG_at 1279 (by decide +kernel) (by decide +kernel)
theorem mG_1280 : Cond.code yX2_plantNodes prog_4_method_15_code 4 none ∈ uG := uG_at 1280 (by decide +kernel) (by decide +kernel)
theorem mG_1281 : Cond.methodLink "LazyForge$Lifter" 177 yX2_plantNode ∈ uG := uG_at 1281 (by decide +kernel) (by decide +kernel)
theorem mG_1283 : Cond.instanceMethod yX2_plantNode ∈ uG := uG_at 1283 (by decide +kernel) (by decide +kernel)
theorem mG_1284 : Cond.code yX2_plantNode prog_4_method_16_code 3 none ∈ uG := uG_at 1284 (by decide +kernel) (by decide +kernel)
theorem mG_1285 : Cond.methodLink "LazyForge$Lifter" 202 yX2_plantLifted ∈ uG := uG_at 1285 (by decide +kernel) (by decide +kernel)
theorem mG_1287 : Cond.instanceMethod yX2_plantLifted ∈ uG := uG_at 1287 (by decide +kernel) (by decide +kernel)
theorem mG_1288 : Cond.code yX2_plantLifted prog_4_method_17_code 8 none ∈ uG := uG_at 1288 (by decide +kernel) (by decide +kernel)
theorem mG_1289 : Cond.methodLink "LazyForge$Lifter" 205 yX2_plantLeaf ∈ uG := uG_at 1289 (by decide +kernel) (by decide +kernel)
theorem mG_1291 : Cond.instanceMethod yX2_plantLeaf ∈ uG := uG_at 1291 (by decide +kernel) (by decide +kernel)
theorem mG_1292 : Cond.code yX2_plantLeaf prog_4_method_18_code 4 (some .int) ∈ uG := uG_at 1292 (by decide +kernel) (by decide +kernel)
theorem mG_1293 : Cond.methodLink "LazyForge$Lifter" 211 yX9_addLeaf ∈ uG := uG_at 1293 (by decide +kernel) (by decide +kernel)
theorem mG_1294 : Cond.methodLink "LazyForge$Lifter" 187 yX9_measureLeaf ∈ uG := uG_at 1294 (by decide +kernel) (by decide +kernel)
theorem mG_1295 : Cond.instanceMethod yX9_measureLeaf ∈ uG := uG_at 1295 (by decide +kernel) (by decide +kernel)
theorem mG_1296 : Cond.selects "LazyForge$Tree" yX9_measureLeaf yX9_measureLeaf ∈ uG := uG_at 1296 (by decide +kernel) (by decide +kernel)
theorem mG_1297 : Cond.code yX9_measureLeaf prog_11_method_6_code 3 none ∈ uG := uG_at 1297 (by decide +kernel) (by decide +kernel)
theorem mG_1298 : Cond.methodLink "LazyForge$Lifter" 196 yX9_measure ∈ uG := uG_at 1298 (by decide +kernel) (by decide +kernel)
theorem mG_1299 : Cond.instanceMethod yX9_measure ∈ uG := uG_at 1299 (by decide +kernel) (by decide +kernel)
theorem mG_1300 : Cond.selects "LazyForge$Tree" yX9_measure yX9_measure ∈ uG := uG_at 1300 (by decide +kernel) (by decide +kernel)
theorem mG_1301 : Cond.code yX9_measure prog_11_method_7_code 11 none ∈ uG := uG_at 1301 (by decide +kernel) (by decide +kernel)
theorem mG_1310 : Cond.methodLink "LazyForge$Lifter" 54 yX2_keepMeasures ∈ uG := uG_at 1310 (by decide +kernel) (by decide +kernel)
theorem mG_1312 : Cond.instanceMethod yX2_keepMeasures ∈ uG := uG_at 1312 (by decide +kernel) (by decide +kernel)
theorem mG_1313 : Cond.code yX2_keepMeasures prog_4_method_19_code 2 none ∈ uG := uG_at 1313 (by decide +kernel) (by decide +kernel)
theorem dX2_addFree_0 : decode cX2_addFree 0 = .ok (.aload_n 0, 1) := by decide +kernel
theorem dX2_addFree_1 : decode cX2_addFree 1 = .ok (.iload_n 1, 1) := by decide +kernel
theorem dX2_addFree_2 : decode cX2_addFree 2 = .ok (.iload_n 2, 1) := by decide +kernel
theorem dX2_addFree_3 : decode cX2_addFree 3 = .ok (.invokevirtual 129, 3) := by decide +kernel
theorem dX2_addFree_6 : decode cX2_addFree 6 = .ok (.iconst (-1), 1) := by decide +kernel
theorem dX2_addFree_7 : decode cX2_addFree 7 = .ok (.if_icmp .eq 4, 3) := by decide +kernel
theorem dX2_addFree_10 : decode cX2_addFree 10 = .ok (.return_, 1) := by decide +kernel
theorem dX2_addFree_11 : decode cX2_addFree 11 = .ok (.aload_n 0, 1) := by decide +kernel
theorem dX2_addFree_12 : decode cX2_addFree 12 = .ok (.getfield 15, 3) := by decide +kernel
theorem dX2_addFree_15 : decode cX2_addFree 15 = .ok (.getfield 133, 3) := by decide +kernel
theorem dX2_addFree_18 : decode cX2_addFree 18 = .ok (.iload_n 1, 1) := by decide +kernel
theorem dX2_addFree_19 : decode cX2_addFree 19 = .ok (.iaload, 1) := by decide +kernel
theorem dX2_addFree_20 : decode cX2_addFree 20 = .ok (.bipush 8, 2) := by decide +kernel
theorem dX2_addFree_22 : decode cX2_addFree 22 = .ok (.if_icmp .ge 26, 3) := by decide +kernel
theorem dX2_addFree_25 : decode cX2_addFree 25 = .ok (.aload_n 0, 1) := by decide +kernel
theorem dX2_addFree_26 : decode cX2_addFree 26 = .ok (.getfield 15, 3) := by decide +kernel
theorem dX2_addFree_29 : decode cX2_addFree 29 = .ok (.getfield 136, 3) := by decide +kernel
theorem dX2_addFree_32 : decode cX2_addFree 32 = .ok (.iload_n 1, 1) := by decide +kernel
theorem dX2_addFree_33 : decode cX2_addFree 33 = .ok (.bipush 8, 2) := by decide +kernel
theorem dX2_addFree_35 : decode cX2_addFree 35 = .ok (.imul, 1) := by decide +kernel
theorem dX2_addFree_36 : decode cX2_addFree 36 = .ok (.aload_n 0, 1) := by decide +kernel
theorem dX2_addFree_37 : decode cX2_addFree 37 = .ok (.getfield 15, 3) := by decide +kernel
theorem dX2_addFree_40 : decode cX2_addFree 40 = .ok (.getfield 133, 3) := by decide +kernel
theorem dX2_addFree_43 : decode cX2_addFree 43 = .ok (.iload_n 1, 1) := by decide +kernel
theorem dX2_addFree_44 : decode cX2_addFree 44 = .ok (.iaload, 1) := by decide +kernel
theorem dX2_addFree_45 : decode cX2_addFree 45 = .ok (.iadd, 1) := by decide +kernel
theorem dX2_addFree_46 : decode cX2_addFree 46 = .ok (.iload_n 2, 1) := by decide +kernel
theorem dX2_addFree_47 : decode cX2_addFree 47 = .ok (.iastore, 1) := by decide +kernel
theorem dX2_addFree_48 : decode cX2_addFree 48 = .ok (.aload_n 0, 1) := by decide +kernel
theorem dX2_addFree_49 : decode cX2_addFree 49 = .ok (.getfield 15, 3) := by decide +kernel
theorem dX2_addFree_52 : decode cX2_addFree 52 = .ok (.getfield 133, 3) := by decide +kernel
theorem dX2_addFree_55 : decode cX2_addFree 55 = .ok (.iload_n 1, 1) := by decide +kernel
theorem dX2_addFree_56 : decode cX2_addFree 56 = .ok (.dup2, 1) := by decide +kernel
theorem dX2_addFree_57 : decode cX2_addFree 57 = .ok (.iaload, 1) := by decide +kernel
theorem dX2_addFree_58 : decode cX2_addFree 58 = .ok (.iconst 1, 1) := by decide +kernel
theorem dX2_addFree_59 : decode cX2_addFree 59 = .ok (.iadd, 1) := by decide +kernel
theorem dX2_addFree_60 : decode cX2_addFree 60 = .ok (.iastore, 1) := by decide +kernel
theorem dX2_addFree_61 : decode cX2_addFree 61 = .ok (.return_, 1) := by decide +kernel
theorem dX2_findFree_0 : decode cX2_findFree 0 = .ok (.iconst 0, 1) := by decide +kernel
theorem dX2_findFree_1 : decode cX2_findFree 1 = .ok (.istore_n 1, 1) := by decide +kernel
theorem dX2_findFree_2 : decode cX2_findFree 2 = .ok (.iload_n 1, 1) := by decide +kernel
theorem dX2_findFree_3 : decode cX2_findFree 3 = .ok (.aload_n 0, 1) := by decide +kernel
theorem dX2_findFree_4 : decode cX2_findFree 4 = .ok (.getfield 19, 3) := by decide +kernel
theorem dX2_findFree_7 : decode cX2_findFree 7 = .ok (.getfield 92, 3) := by decide +kernel
theorem dX2_findFree_10 : decode cX2_findFree 10 = .ok (.if_icmp .ge 45, 3) := by decide +kernel
theorem dX2_findFree_13 : decode cX2_findFree 13 = .ok (.aload_n 0, 1) := by decide +kernel
theorem dX2_findFree_14 : decode cX2_findFree 14 = .ok (.getfield 19, 3) := by decide +kernel
theorem dX2_findFree_17 : decode cX2_findFree 17 = .ok (.getfield 117, 3) := by decide +kernel
theorem dX2_findFree_20 : decode cX2_findFree 20 = .ok (.iload_n 1, 1) := by decide +kernel
theorem dX2_findFree_21 : decode cX2_findFree 21 = .ok (.iaload, 1) := by decide +kernel
theorem dX2_findFree_22 : decode cX2_findFree 22 = .ok (.istore_n 2, 1) := by decide +kernel
theorem dX2_findFree_23 : decode cX2_findFree 23 = .ok (.iload_n 2, 1) := by decide +kernel
theorem dX2_findFree_24 : decode cX2_findFree 24 = .ok (.ifCond .lt 25, 3) := by decide +kernel
theorem dX2_findFree_27 : decode cX2_findFree 27 = .ok (.aload_n 0, 1) := by decide +kernel
theorem dX2_findFree_28 : decode cX2_findFree 28 = .ok (.iload_n 2, 1) := by decide +kernel
theorem dX2_findFree_29 : decode cX2_findFree 29 = .ok (.aload_n 0, 1) := by decide +kernel
theorem dX2_findFree_30 : decode cX2_findFree 30 = .ok (.getfield 19, 3) := by decide +kernel
theorem dX2_findFree_33 : decode cX2_findFree 33 = .ok (.getfield 120, 3) := by decide +kernel
theorem dX2_findFree_36 : decode cX2_findFree 36 = .ok (.aload_n 0, 1) := by decide +kernel
theorem dX2_findFree_37 : decode cX2_findFree 37 = .ok (.getfield 19, 3) := by decide +kernel
theorem dX2_findFree_40 : decode cX2_findFree 40 = .ok (.getfield 95, 3) := by decide +kernel
theorem dX2_findFree_43 : decode cX2_findFree 43 = .ok (.iload_n 1, 1) := by decide +kernel
theorem dX2_findFree_44 : decode cX2_findFree 44 = .ok (.iaload, 1) := by decide +kernel
theorem dX2_findFree_45 : decode cX2_findFree 45 = .ok (.iaload, 1) := by decide +kernel
theorem dX2_findFree_46 : decode cX2_findFree 46 = .ok (.invokevirtual 123, 3) := by decide +kernel
theorem dX2_findFree_49 : decode cX2_findFree 49 = .ok (.iinc 1 1, 3) := by decide +kernel
theorem dX2_findFree_52 : decode cX2_findFree 52 = .ok (.goto (-50), 3) := by decide +kernel
theorem dX2_findFree_55 : decode cX2_findFree 55 = .ok (.return_, 1) := by decide +kernel
theorem dX2_findMain_0 : decode cX2_findMain 0 = .ok (.aload_n 0, 1) := by decide +kernel
theorem dX2_findMain_1 : decode cX2_findMain 1 = .ok (.getfield 15, 3) := by decide +kernel
theorem dX2_findMain_4 : decode cX2_findMain 4 = .ok (.aload_n 0, 1) := by decide +kernel
theorem dX2_findMain_5 : decode cX2_findMain 5 = .ok (.getfield 15, 3) := by decide +kernel
theorem dX2_findMain_8 : decode cX2_findMain 8 = .ok (.ldc2_w 148, 3) := by decide +kernel
theorem dX2_findMain_11 : decode cX2_findMain 11 = .ok (.invokevirtual 106, 3) := by decide +kernel
theorem dX2_findMain_14 : decode cX2_findMain 14 = .ok (.putfield 150, 3) := by decide +kernel
theorem dX2_findMain_17 : decode cX2_findMain 17 = .ok (.aload_n 0, 1) := by decide +kernel
theorem dX2_findMain_18 : decode cX2_findMain 18 = .ok (.getfield 15, 3) := by decide +kernel
theorem dX2_findMain_21 : decode cX2_findMain 21 = .ok (.getfield 150, 3) := by decide +kernel
theorem dX2_findMain_24 : decode cX2_findMain 24 = .ok (.iconst (-1), 1) := by decide +kernel
theorem dX2_findMain_25 : decode cX2_findMain 25 = .ok (.if_icmp .eq 21, 3) := by decide +kernel
theorem dX2_findMain_28 : decode cX2_findMain 28 = .ok (.aload_n 0, 1) := by decide +kernel
theorem dX2_findMain_29 : decode cX2_findMain 29 = .ok (.getfield 15, 3) := by decide +kernel
theorem dX2_findMain_32 : decode cX2_findMain 32 = .ok (.getfield 139, 3) := by decide +kernel
theorem dX2_findMain_35 : decode cX2_findMain 35 = .ok (.aload_n 0, 1) := by decide +kernel
theorem dX2_findMain_36 : decode cX2_findMain 36 = .ok (.getfield 15, 3) := by decide +kernel
theorem dX2_findMain_39 : decode cX2_findMain 39 = .ok (.getfield 150, 3) := by decide +kernel
theorem dX2_findMain_42 : decode cX2_findMain 42 = .ok (.iaload, 1) := by decide +kernel
theorem dX2_findMain_43 : decode cX2_findMain 43 = .ok (.ifCond .le 10, 3) := by decide +kernel
theorem dX2_findMain_46 : decode cX2_findMain 46 = .ok (.aload_n 0, 1) := by decide +kernel
theorem dX2_findMain_47 : decode cX2_findMain 47 = .ok (.bipush 7, 2) := by decide +kernel
theorem dX2_findMain_49 : decode cX2_findMain 49 = .ok (.iconst 0, 1) := by decide +kernel
theorem dX2_findMain_50 : decode cX2_findMain 50 = .ok (.invokevirtual 113, 3) := by decide +kernel
theorem dX2_findMain_53 : decode cX2_findMain 53 = .ok (.return_, 1) := by decide +kernel
theorem dX2_freeIndex_0 : decode cX2_freeIndex 0 = .ok (.iconst 0, 1) := by decide +kernel
theorem dX2_freeIndex_1 : decode cX2_freeIndex 1 = .ok (.istore_n 3, 1) := by decide +kernel
theorem dX2_freeIndex_2 : decode cX2_freeIndex 2 = .ok (.iload_n 3, 1) := by decide +kernel
theorem dX2_freeIndex_3 : decode cX2_freeIndex 3 = .ok (.aload_n 0, 1) := by decide +kernel
theorem dX2_freeIndex_4 : decode cX2_freeIndex 4 = .ok (.getfield 15, 3) := by decide +kernel
theorem dX2_freeIndex_7 : decode cX2_freeIndex 7 = .ok (.getfield 133, 3) := by decide +kernel
theorem dX2_freeIndex_10 : decode cX2_freeIndex 10 = .ok (.iload_n 1, 1) := by decide +kernel
theorem dX2_freeIndex_11 : decode cX2_freeIndex 11 = .ok (.iaload, 1) := by decide +kernel
theorem dX2_freeIndex_12 : decode cX2_freeIndex 12 = .ok (.if_icmp .ge 35, 3) := by decide +kernel
theorem dX2_freeIndex_15 : decode cX2_freeIndex 15 = .ok (.iload_n 3, 1) := by decide +kernel
theorem dX2_freeIndex_16 : decode cX2_freeIndex 16 = .ok (.bipush 8, 2) := by decide +kernel
theorem dX2_freeIndex_18 : decode cX2_freeIndex 18 = .ok (.if_icmp .ge 29, 3) := by decide +kernel
theorem dX2_freeIndex_21 : decode cX2_freeIndex 21 = .ok (.aload_n 0, 1) := by decide +kernel
theorem dX2_freeIndex_22 : decode cX2_freeIndex 22 = .ok (.getfield 15, 3) := by decide +kernel
theorem dX2_freeIndex_25 : decode cX2_freeIndex 25 = .ok (.getfield 136, 3) := by decide +kernel
theorem dX2_freeIndex_28 : decode cX2_freeIndex 28 = .ok (.iload_n 1, 1) := by decide +kernel
theorem dX2_freeIndex_29 : decode cX2_freeIndex 29 = .ok (.bipush 8, 2) := by decide +kernel
theorem dX2_freeIndex_31 : decode cX2_freeIndex 31 = .ok (.imul, 1) := by decide +kernel
theorem dX2_freeIndex_32 : decode cX2_freeIndex 32 = .ok (.iload_n 3, 1) := by decide +kernel
theorem dX2_freeIndex_33 : decode cX2_freeIndex 33 = .ok (.iadd, 1) := by decide +kernel
theorem dX2_freeIndex_34 : decode cX2_freeIndex 34 = .ok (.iaload, 1) := by decide +kernel
theorem dX2_freeIndex_35 : decode cX2_freeIndex 35 = .ok (.iload_n 2, 1) := by decide +kernel
theorem dX2_freeIndex_36 : decode cX2_freeIndex 36 = .ok (.if_icmp .ne 5, 3) := by decide +kernel
theorem dX2_freeIndex_39 : decode cX2_freeIndex 39 = .ok (.iload_n 3, 1) := by decide +kernel
theorem dX2_freeIndex_40 : decode cX2_freeIndex 40 = .ok (.ireturn, 1) := by decide +kernel
theorem dX2_freeIndex_41 : decode cX2_freeIndex 41 = .ok (.iinc 3 1, 3) := by decide +kernel
theorem dX2_freeIndex_44 : decode cX2_freeIndex 44 = .ok (.goto (-42), 3) := by decide +kernel
theorem dX2_freeIndex_47 : decode cX2_freeIndex 47 = .ok (.iconst (-1), 1) := by decide +kernel
theorem dX2_freeIndex_48 : decode cX2_freeIndex 48 = .ok (.ireturn, 1) := by decide +kernel
theorem dX2_keepMeasures_0 : decode cX2_keepMeasures 0 = .ok (.iconst 0, 1) := by decide +kernel
theorem dX2_keepMeasures_1 : decode cX2_keepMeasures 1 = .ok (.istore_n 1, 1) := by decide +kernel
theorem dX2_keepMeasures_2 : decode cX2_keepMeasures 2 = .ok (.iload_n 1, 1) := by decide +kernel
theorem dX2_keepMeasures_3 : decode cX2_keepMeasures 3 = .ok (.aload_n 0, 1) := by decide +kernel
theorem dX2_keepMeasures_4 : decode cX2_keepMeasures 4 = .ok (.getfield 15, 3) := by decide +kernel
theorem dX2_keepMeasures_7 : decode cX2_keepMeasures 7 = .ok (.getfield 85, 3) := by decide +kernel
theorem dX2_keepMeasures_10 : decode cX2_keepMeasures 10 = .ok (.if_icmp .ge 112, 3) := by decide +kernel
theorem dX2_keepMeasures_13 : decode cX2_keepMeasures 13 = .ok (.aload_n 0, 1) := by decide +kernel
theorem dX2_keepMeasures_14 : decode cX2_keepMeasures 14 = .ok (.getfield 15, 3) := by decide +kernel
theorem dX2_keepMeasures_17 : decode cX2_keepMeasures 17 = .ok (.getfield 214, 3) := by decide +kernel
theorem dX2_keepMeasures_20 : decode cX2_keepMeasures 20 = .ok (.iload_n 1, 1) := by decide +kernel
theorem dX2_keepMeasures_21 : decode cX2_keepMeasures 21 = .ok (.aload_n 0, 1) := by decide +kernel
theorem dX2_keepMeasures_22 : decode cX2_keepMeasures 22 = .ok (.getfield 9, 3) := by decide +kernel
theorem dX2_keepMeasures_25 : decode cX2_keepMeasures 25 = .ok (.getfield 217, 3) := by decide +kernel
theorem dX2_keepMeasures_28 : decode cX2_keepMeasures 28 = .ok (.aload_n 0, 1) := by decide +kernel
theorem dX2_keepMeasures_29 : decode cX2_keepMeasures 29 = .ok (.getfield 15, 3) := by decide +kernel
theorem dX2_keepMeasures_32 : decode cX2_keepMeasures 32 = .ok (.getfield 88, 3) := by decide +kernel
theorem dX2_keepMeasures_35 : decode cX2_keepMeasures 35 = .ok (.iload_n 1, 1) := by decide +kernel
theorem dX2_keepMeasures_36 : decode cX2_keepMeasures 36 = .ok (.iaload, 1) := by decide +kernel
theorem dX2_keepMeasures_37 : decode cX2_keepMeasures 37 = .ok (.iaload, 1) := by decide +kernel
theorem dX2_keepMeasures_38 : decode cX2_keepMeasures 38 = .ok (.iastore, 1) := by decide +kernel
theorem dX2_keepMeasures_39 : decode cX2_keepMeasures 39 = .ok (.aload_n 0, 1) := by decide +kernel
theorem dX2_keepMeasures_40 : decode cX2_keepMeasures 40 = .ok (.getfield 15, 3) := by decide +kernel
theorem dX2_keepMeasures_43 : decode cX2_keepMeasures 43 = .ok (.getfield 218, 3) := by decide +kernel
theorem dX2_keepMeasures_46 : decode cX2_keepMeasures 46 = .ok (.iload_n 1, 1) := by decide +kernel
theorem dX2_keepMeasures_47 : decode cX2_keepMeasures 47 = .ok (.aload_n 0, 1) := by decide +kernel
theorem dX2_keepMeasures_48 : decode cX2_keepMeasures 48 = .ok (.getfield 9, 3) := by decide +kernel
theorem dX2_keepMeasures_51 : decode cX2_keepMeasures 51 = .ok (.getfield 221, 3) := by decide +kernel
theorem dX2_keepMeasures_54 : decode cX2_keepMeasures 54 = .ok (.aload_n 0, 1) := by decide +kernel
theorem dX2_keepMeasures_55 : decode cX2_keepMeasures 55 = .ok (.getfield 15, 3) := by decide +kernel
theorem dX2_keepMeasures_58 : decode cX2_keepMeasures 58 = .ok (.getfield 88, 3) := by decide +kernel
theorem dX2_keepMeasures_61 : decode cX2_keepMeasures 61 = .ok (.iload_n 1, 1) := by decide +kernel
theorem dX2_keepMeasures_62 : decode cX2_keepMeasures 62 = .ok (.iaload, 1) := by decide +kernel
theorem dX2_keepMeasures_63 : decode cX2_keepMeasures 63 = .ok (.iaload, 1) := by decide +kernel
theorem dX2_keepMeasures_64 : decode cX2_keepMeasures 64 = .ok (.iastore, 1) := by decide +kernel
theorem dX2_keepMeasures_65 : decode cX2_keepMeasures 65 = .ok (.aload_n 0, 1) := by decide +kernel
theorem dX2_keepMeasures_66 : decode cX2_keepMeasures 66 = .ok (.getfield 15, 3) := by decide +kernel
theorem dX2_keepMeasures_69 : decode cX2_keepMeasures 69 = .ok (.getfield 218, 3) := by decide +kernel
theorem dX2_keepMeasures_72 : decode cX2_keepMeasures 72 = .ok (.iload_n 1, 1) := by decide +kernel
theorem dX2_keepMeasures_73 : decode cX2_keepMeasures 73 = .ok (.iaload, 1) := by decide +kernel
theorem dX2_keepMeasures_74 : decode cX2_keepMeasures 74 = .ok (.bipush 40, 2) := by decide +kernel
theorem dX2_keepMeasures_76 : decode cX2_keepMeasures 76 = .ok (.if_icmp .gt 17, 3) := by decide +kernel
theorem dX2_keepMeasures_79 : decode cX2_keepMeasures 79 = .ok (.aload_n 0, 1) := by decide +kernel
theorem dX2_keepMeasures_80 : decode cX2_keepMeasures 80 = .ok (.getfield 15, 3) := by decide +kernel
theorem dX2_keepMeasures_83 : decode cX2_keepMeasures 83 = .ok (.getfield 156, 3) := by decide +kernel
theorem dX2_keepMeasures_86 : decode cX2_keepMeasures 86 = .ok (.iload_n 1, 1) := by decide +kernel
theorem dX2_keepMeasures_87 : decode cX2_keepMeasures 87 = .ok (.iaload, 1) := by decide +kernel
theorem dX2_keepMeasures_88 : decode cX2_keepMeasures 88 = .ok (.bipush 40, 2) := by decide +kernel
theorem dX2_keepMeasures_90 : decode cX2_keepMeasures 90 = .ok (.if_icmp .le 26, 3) := by decide +kernel
theorem dX2_keepMeasures_93 : decode cX2_keepMeasures 93 = .ok (.aload_n 0, 1) := by decide +kernel
theorem dX2_keepMeasures_94 : decode cX2_keepMeasures 94 = .ok (.bipush 8, 2) := by decide +kernel
theorem dX2_keepMeasures_96 : decode cX2_keepMeasures 96 = .ok (.aload_n 0, 1) := by decide +kernel
theorem dX2_keepMeasures_97 : decode cX2_keepMeasures 97 = .ok (.getfield 19, 3) := by decide +kernel
theorem dX2_keepMeasures_100 : decode cX2_keepMeasures 100 = .ok (.getfield 145, 3) := by decide +kernel
theorem dX2_keepMeasures_103 : decode cX2_keepMeasures 103 = .ok (.aload_n 0, 1) := by decide +kernel
theorem dX2_keepMeasures_104 : decode cX2_keepMeasures 104 = .ok (.getfield 15, 3) := by decide +kernel
theorem dX2_keepMeasures_107 : decode cX2_keepMeasures 107 = .ok (.getfield 68, 3) := by decide +kernel
theorem dX2_keepMeasures_110 : decode cX2_keepMeasures 110 = .ok (.iload_n 1, 1) := by decide +kernel
theorem dX2_keepMeasures_111 : decode cX2_keepMeasures 111 = .ok (.iaload, 1) := by decide +kernel
theorem dX2_keepMeasures_112 : decode cX2_keepMeasures 112 = .ok (.iaload, 1) := by decide +kernel
theorem dX2_keepMeasures_113 : decode cX2_keepMeasures 113 = .ok (.invokevirtual 113, 3) := by decide +kernel
theorem dX2_keepMeasures_116 : decode cX2_keepMeasures 116 = .ok (.iinc 1 1, 3) := by decide +kernel
theorem dX2_keepMeasures_119 : decode cX2_keepMeasures 119 = .ok (.goto (-117), 3) := by decide +kernel
theorem dX2_keepMeasures_122 : decode cX2_keepMeasures 122 = .ok (.return_, 1) := by decide +kernel
theorem dX2_lift_0 : decode cX2_lift 0 = .ok (.aload_n 0, 1) := by decide +kernel
theorem dX2_lift_1 : decode cX2_lift 1 = .ok (.iconst 0, 1) := by decide +kernel
theorem dX2_lift_2 : decode cX2_lift 2 = .ok (.putfield 23, 3) := by decide +kernel
theorem dX2_lift_5 : decode cX2_lift 5 = .ok (.aload_n 0, 1) := by decide +kernel
theorem dX2_lift_6 : decode cX2_lift 6 = .ok (.iconst (-1), 1) := by decide +kernel
theorem dX2_lift_7 : decode cX2_lift 7 = .ok (.putfield 27, 3) := by decide +kernel
theorem dX2_lift_10 : decode cX2_lift 10 = .ok (.aload_n 0, 1) := by decide +kernel
theorem dX2_lift_11 : decode cX2_lift 11 = .ok (.invokevirtual 30, 3) := by decide +kernel
theorem dX2_lift_14 : decode cX2_lift 14 = .ok (.aload_n 0, 1) := by decide +kernel
theorem dX2_lift_15 : decode cX2_lift 15 = .ok (.invokevirtual 33, 3) := by decide +kernel
theorem dX2_lift_18 : decode cX2_lift 18 = .ok (.aload_n 0, 1) := by decide +kernel
theorem dX2_lift_19 : decode cX2_lift 19 = .ok (.getfield 23, 3) := by decide +kernel
theorem dX2_lift_22 : decode cX2_lift 22 = .ok (.ifCond .ne 11, 3) := by decide +kernel
theorem dX2_lift_25 : decode cX2_lift 25 = .ok (.aload_n 0, 1) := by decide +kernel
theorem dX2_lift_26 : decode cX2_lift 26 = .ok (.invokevirtual 36, 3) := by decide +kernel
theorem dX2_lift_29 : decode cX2_lift 29 = .ok (.aload_n 0, 1) := by decide +kernel
theorem dX2_lift_30 : decode cX2_lift 30 = .ok (.invokevirtual 39, 3) := by decide +kernel
theorem dX2_lift_33 : decode cX2_lift 33 = .ok (.aload_n 0, 1) := by decide +kernel
theorem dX2_lift_34 : decode cX2_lift 34 = .ok (.getfield 23, 3) := by decide +kernel
theorem dX2_lift_37 : decode cX2_lift 37 = .ok (.ifCond .ne 7, 3) := by decide +kernel
theorem dX2_lift_40 : decode cX2_lift 40 = .ok (.aload_n 0, 1) := by decide +kernel
theorem dX2_lift_41 : decode cX2_lift 41 = .ok (.invokevirtual 42, 3) := by decide +kernel
theorem dX2_lift_44 : decode cX2_lift 44 = .ok (.aload_n 0, 1) := by decide +kernel
theorem dX2_lift_45 : decode cX2_lift 45 = .ok (.getfield 23, 3) := by decide +kernel
theorem dX2_lift_48 : decode cX2_lift 48 = .ok (.ifCond .ne 19, 3) := by decide +kernel
theorem dX2_lift_51 : decode cX2_lift 51 = .ok (.aload_n 0, 1) := by decide +kernel
theorem dX2_lift_52 : decode cX2_lift 52 = .ok (.invokevirtual 45, 3) := by decide +kernel
theorem dX2_lift_55 : decode cX2_lift 55 = .ok (.aload_n 0, 1) := by decide +kernel
theorem dX2_lift_56 : decode cX2_lift 56 = .ok (.invokevirtual 48, 3) := by decide +kernel
theorem dX2_lift_59 : decode cX2_lift 59 = .ok (.aload_n 0, 1) := by decide +kernel
theorem dX2_lift_60 : decode cX2_lift 60 = .ok (.invokevirtual 51, 3) := by decide +kernel
theorem dX2_lift_63 : decode cX2_lift 63 = .ok (.aload_n 0, 1) := by decide +kernel
theorem dX2_lift_64 : decode cX2_lift 64 = .ok (.invokevirtual 54, 3) := by decide +kernel
theorem dX2_lift_67 : decode cX2_lift 67 = .ok (.return_, 1) := by decide +kernel
theorem dX2_numberFunctions_0 : decode cX2_numberFunctions 0 = .ok (.iconst 0, 1) := by decide +kernel
theorem dX2_numberFunctions_1 : decode cX2_numberFunctions 1 = .ok (.istore_n 1, 1) := by decide +kernel
theorem dX2_numberFunctions_2 : decode cX2_numberFunctions 2 = .ok (.iload_n 1, 1) := by decide +kernel
theorem dX2_numberFunctions_3 : decode cX2_numberFunctions 3 = .ok (.aload_n 0, 1) := by decide +kernel
theorem dX2_numberFunctions_4 : decode cX2_numberFunctions 4 = .ok (.getfield 15, 3) := by decide +kernel
theorem dX2_numberFunctions_7 : decode cX2_numberFunctions 7 = .ok (.getfield 57, 3) := by decide +kernel
theorem dX2_numberFunctions_10 : decode cX2_numberFunctions 10 = .ok (.if_icmp .ge 27, 3) := by decide +kernel
theorem dX2_numberFunctions_13 : decode cX2_numberFunctions 13 = .ok (.aload_n 0, 1) := by decide +kernel
theorem dX2_numberFunctions_14 : decode cX2_numberFunctions 14 = .ok (.getfield 19, 3) := by decide +kernel
theorem dX2_numberFunctions_17 : decode cX2_numberFunctions 17 = .ok (.getfield 62, 3) := by decide +kernel
theorem dX2_numberFunctions_20 : decode cX2_numberFunctions 20 = .ok (.aload_n 0, 1) := by decide +kernel
theorem dX2_numberFunctions_21 : decode cX2_numberFunctions 21 = .ok (.getfield 15, 3) := by decide +kernel
theorem dX2_numberFunctions_24 : decode cX2_numberFunctions 24 = .ok (.getfield 68, 3) := by decide +kernel
theorem dX2_numberFunctions_27 : decode cX2_numberFunctions 27 = .ok (.iload_n 1, 1) := by decide +kernel
theorem dX2_numberFunctions_28 : decode cX2_numberFunctions 28 = .ok (.iaload, 1) := by decide +kernel
theorem dX2_numberFunctions_29 : decode cX2_numberFunctions 29 = .ok (.iload_n 1, 1) := by decide +kernel
theorem dX2_numberFunctions_30 : decode cX2_numberFunctions 30 = .ok (.iastore, 1) := by decide +kernel
theorem dX2_numberFunctions_31 : decode cX2_numberFunctions 31 = .ok (.iinc 1 1, 3) := by decide +kernel
theorem dX2_numberFunctions_34 : decode cX2_numberFunctions 34 = .ok (.goto (-32), 3) := by decide +kernel
theorem dX2_numberFunctions_37 : decode cX2_numberFunctions 37 = .ok (.iconst 0, 1) := by decide +kernel
theorem dX2_numberFunctions_38 : decode cX2_numberFunctions 38 = .ok (.istore_n 1, 1) := by decide +kernel
theorem dX2_numberFunctions_39 : decode cX2_numberFunctions 39 = .ok (.iload_n 1, 1) := by decide +kernel
theorem dX2_numberFunctions_40 : decode cX2_numberFunctions 40 = .ok (.aload_n 0, 1) := by decide +kernel
theorem dX2_numberFunctions_41 : decode cX2_numberFunctions 41 = .ok (.getfield 19, 3) := by decide +kernel
theorem dX2_numberFunctions_44 : decode cX2_numberFunctions 44 = .ok (.getfield 71, 3) := by decide +kernel
theorem dX2_numberFunctions_47 : decode cX2_numberFunctions 47 = .ok (.if_icmp .ge 50, 3) := by decide +kernel
theorem dX2_numberFunctions_50 : decode cX2_numberFunctions 50 = .ok (.aload_n 0, 1) := by decide +kernel
theorem dX2_numberFunctions_51 : decode cX2_numberFunctions 51 = .ok (.getfield 19, 3) := by decide +kernel
theorem dX2_numberFunctions_54 : decode cX2_numberFunctions 54 = .ok (.iload_n 1, 1) := by decide +kernel
theorem dX2_numberFunctions_55 : decode cX2_numberFunctions 55 = .ok (.invokevirtual 74, 3) := by decide +kernel
theorem dX2_numberFunctions_58 : decode cX2_numberFunctions 58 = .ok (.ifCond .eq 33, 3) := by decide +kernel
theorem dX2_numberFunctions_61 : decode cX2_numberFunctions 61 = .ok (.aload_n 0, 1) := by decide +kernel
theorem dX2_numberFunctions_62 : decode cX2_numberFunctions 62 = .ok (.getfield 19, 3) := by decide +kernel
theorem dX2_numberFunctions_65 : decode cX2_numberFunctions 65 = .ok (.getfield 78, 3) := by decide +kernel
theorem dX2_numberFunctions_68 : decode cX2_numberFunctions 68 = .ok (.iload_n 1, 1) := by decide +kernel
theorem dX2_numberFunctions_69 : decode cX2_numberFunctions 69 = .ok (.iaload, 1) := by decide +kernel
theorem dX2_numberFunctions_70 : decode cX2_numberFunctions 70 = .ok (.iconst (-1), 1) := by decide +kernel
theorem dX2_numberFunctions_71 : decode cX2_numberFunctions 71 = .ok (.if_icmp .eq 20, 3) := by decide +kernel
theorem dX2_numberFunctions_74 : decode cX2_numberFunctions 74 = .ok (.aload_n 0, 1) := by decide +kernel
theorem dX2_numberFunctions_75 : decode cX2_numberFunctions 75 = .ok (.getfield 19, 3) := by decide +kernel
theorem dX2_numberFunctions_78 : decode cX2_numberFunctions 78 = .ok (.getfield 62, 3) := by decide +kernel
theorem dX2_numberFunctions_81 : decode cX2_numberFunctions 81 = .ok (.iload_n 1, 1) := by decide +kernel
theorem dX2_numberFunctions_82 : decode cX2_numberFunctions 82 = .ok (.aload_n 0, 1) := by decide +kernel
theorem dX2_numberFunctions_83 : decode cX2_numberFunctions 83 = .ok (.getfield 15, 3) := by decide +kernel
theorem dX2_numberFunctions_86 : decode cX2_numberFunctions 86 = .ok (.iload_n 1, 1) := by decide +kernel
theorem dX2_numberFunctions_87 : decode cX2_numberFunctions 87 = .ok (.invokevirtual 81, 3) := by decide +kernel
theorem dX2_numberFunctions_90 : decode cX2_numberFunctions 90 = .ok (.iastore, 1) := by decide +kernel
theorem dX2_numberFunctions_91 : decode cX2_numberFunctions 91 = .ok (.iinc 1 1, 3) := by decide +kernel
theorem dX2_numberFunctions_94 : decode cX2_numberFunctions 94 = .ok (.goto (-55), 3) := by decide +kernel
theorem dX2_numberFunctions_97 : decode cX2_numberFunctions 97 = .ok (.iconst 0, 1) := by decide +kernel
theorem dX2_numberFunctions_98 : decode cX2_numberFunctions 98 = .ok (.istore_n 1, 1) := by decide +kernel
theorem dX2_numberFunctions_99 : decode cX2_numberFunctions 99 = .ok (.iload_n 1, 1) := by decide +kernel
theorem dX2_numberFunctions_100 : decode cX2_numberFunctions 100 = .ok (.aload_n 0, 1) := by decide +kernel
theorem dX2_numberFunctions_101 : decode cX2_numberFunctions 101 = .ok (.getfield 15, 3) := by decide +kernel
theorem dX2_numberFunctions_104 : decode cX2_numberFunctions 104 = .ok (.getfield 85, 3) := by decide +kernel
theorem dX2_numberFunctions_107 : decode cX2_numberFunctions 107 = .ok (.if_icmp .ge 35, 3) := by decide +kernel
theorem dX2_numberFunctions_110 : decode cX2_numberFunctions 110 = .ok (.aload_n 0, 1) := by decide +kernel
theorem dX2_numberFunctions_111 : decode cX2_numberFunctions 111 = .ok (.getfield 15, 3) := by decide +kernel
theorem dX2_numberFunctions_114 : decode cX2_numberFunctions 114 = .ok (.getfield 88, 3) := by decide +kernel
theorem dX2_numberFunctions_117 : decode cX2_numberFunctions 117 = .ok (.iload_n 1, 1) := by decide +kernel
theorem dX2_numberFunctions_118 : decode cX2_numberFunctions 118 = .ok (.aload_n 0, 1) := by decide +kernel
theorem dX2_numberFunctions_119 : decode cX2_numberFunctions 119 = .ok (.getfield 19, 3) := by decide +kernel
theorem dX2_numberFunctions_122 : decode cX2_numberFunctions 122 = .ok (.getfield 91, 3) := by decide +kernel
theorem dX2_numberFunctions_125 : decode cX2_numberFunctions 125 = .ok (.aload_n 0, 1) := by decide +kernel
theorem dX2_numberFunctions_126 : decode cX2_numberFunctions 126 = .ok (.getfield 15, 3) := by decide +kernel
theorem dX2_numberFunctions_129 : decode cX2_numberFunctions 129 = .ok (.getfield 68, 3) := by decide +kernel
theorem dX2_numberFunctions_132 : decode cX2_numberFunctions 132 = .ok (.iload_n 1, 1) := by decide +kernel
theorem dX2_numberFunctions_133 : decode cX2_numberFunctions 133 = .ok (.iaload, 1) := by decide +kernel
theorem dX2_numberFunctions_134 : decode cX2_numberFunctions 134 = .ok (.iaload, 1) := by decide +kernel
theorem dX2_numberFunctions_135 : decode cX2_numberFunctions 135 = .ok (.iastore, 1) := by decide +kernel
theorem dX2_numberFunctions_136 : decode cX2_numberFunctions 136 = .ok (.iinc 1 1, 3) := by decide +kernel
theorem dX2_numberFunctions_139 : decode cX2_numberFunctions 139 = .ok (.goto (-40), 3) := by decide +kernel
theorem dX2_numberFunctions_142 : decode cX2_numberFunctions 142 = .ok (.return_, 1) := by decide +kernel
theorem dX2_numberIn_0 : decode cX2_numberIn 0 = .ok (.iload_n 2, 1) := by decide +kernel
theorem dX2_numberIn_1 : decode cX2_numberIn 1 = .ok (.iconst 5, 1) := by decide +kernel
theorem dX2_numberIn_2 : decode cX2_numberIn 2 = .ok (.idiv, 1) := by decide +kernel
theorem dX2_numberIn_3 : decode cX2_numberIn 3 = .ok (.istore_n 3, 1) := by decide +kernel
theorem dX2_numberIn_4 : decode cX2_numberIn 4 = .ok (.aload_n 0, 1) := by decide +kernel
theorem dX2_numberIn_5 : decode cX2_numberIn 5 = .ok (.getfield 19, 3) := by decide +kernel
theorem dX2_numberIn_8 : decode cX2_numberIn 8 = .ok (.getfield 120, 3) := by decide +kernel
theorem dX2_numberIn_11 : decode cX2_numberIn 11 = .ok (.iload_n 3, 1) := by decide +kernel
theorem dX2_numberIn_12 : decode cX2_numberIn 12 = .ok (.iaload, 1) := by decide +kernel
theorem dX2_numberIn_13 : decode cX2_numberIn 13 = .ok (.aload_n 0, 1) := by decide +kernel
theorem dX2_numberIn_14 : decode cX2_numberIn 14 = .ok (.getfield 15, 3) := by decide +kernel
theorem dX2_numberIn_17 : decode cX2_numberIn 17 = .ok (.getfield 68, 3) := by decide +kernel
theorem dX2_numberIn_20 : decode cX2_numberIn 20 = .ok (.iload_n 1, 1) := by decide +kernel
theorem dX2_numberIn_21 : decode cX2_numberIn 21 = .ok (.iaload, 1) := by decide +kernel
theorem dX2_numberIn_22 : decode cX2_numberIn 22 = .ok (.if_icmp .ne 17, 3) := by decide +kernel
theorem dX2_numberIn_25 : decode cX2_numberIn 25 = .ok (.aload_n 0, 1) := by decide +kernel
theorem dX2_numberIn_26 : decode cX2_numberIn 26 = .ok (.getfield 19, 3) := by decide +kernel
theorem dX2_numberIn_29 : decode cX2_numberIn 29 = .ok (.getfield 153, 3) := by decide +kernel
theorem dX2_numberIn_32 : decode cX2_numberIn 32 = .ok (.iload_n 3, 1) := by decide +kernel
theorem dX2_numberIn_33 : decode cX2_numberIn 33 = .ok (.iaload, 1) := by decide +kernel
theorem dX2_numberIn_34 : decode cX2_numberIn 34 = .ok (.iload_n 2, 1) := by decide +kernel
theorem dX2_numberIn_35 : decode cX2_numberIn 35 = .ok (.iconst 5, 1) := by decide +kernel
theorem dX2_numberIn_36 : decode cX2_numberIn 36 = .ok (.irem, 1) := by decide +kernel
theorem dX2_numberIn_37 : decode cX2_numberIn 37 = .ok (.iadd, 1) := by decide +kernel
theorem dX2_numberIn_38 : decode cX2_numberIn 38 = .ok (.ireturn, 1) := by decide +kernel
theorem dX2_numberIn_39 : decode cX2_numberIn 39 = .ok (.iconst 0, 1) := by decide +kernel
theorem dX2_numberIn_40 : decode cX2_numberIn 40 = .ok (.aload_n 0, 1) := by decide +kernel
theorem dX2_numberIn_41 : decode cX2_numberIn 41 = .ok (.iload_n 1, 1) := by decide +kernel
theorem dX2_numberIn_42 : decode cX2_numberIn 42 = .ok (.iload_n 2, 1) := by decide +kernel
theorem dX2_numberIn_43 : decode cX2_numberIn 43 = .ok (.invokevirtual 129, 3) := by decide +kernel
theorem dX2_numberIn_46 : decode cX2_numberIn 46 = .ok (.invokestatic 159, 3) := by decide +kernel
theorem dX2_numberIn_49 : decode cX2_numberIn 49 = .ok (.ireturn, 1) := by decide +kernel
theorem dX2_numberVariables_0 : decode cX2_numberVariables 0 = .ok (.iconst 0, 1) := by decide +kernel
theorem dX2_numberVariables_1 : decode cX2_numberVariables 1 = .ok (.istore_n 1, 1) := by decide +kernel
theorem dX2_numberVariables_2 : decode cX2_numberVariables 2 = .ok (.iload_n 1, 1) := by decide +kernel
theorem dX2_numberVariables_3 : decode cX2_numberVariables 3 = .ok (.aload_n 0, 1) := by decide +kernel
theorem dX2_numberVariables_4 : decode cX2_numberVariables 4 = .ok (.getfield 15, 3) := by decide +kernel
theorem dX2_numberVariables_7 : decode cX2_numberVariables 7 = .ok (.getfield 85, 3) := by decide +kernel
theorem dX2_numberVariables_10 : decode cX2_numberVariables 10 = .ok (.if_icmp .ge 53, 3) := by decide +kernel
theorem dX2_numberVariables_13 : decode cX2_numberVariables 13 = .ok (.aload_n 0, 1) := by decide +kernel
theorem dX2_numberVariables_14 : decode cX2_numberVariables 14 = .ok (.getfield 19, 3) := by decide +kernel
theorem dX2_numberVariables_17 : decode cX2_numberVariables 17 = .ok (.getfield 153, 3) := by decide +kernel
theorem dX2_numberVariables_20 : decode cX2_numberVariables 20 = .ok (.aload_n 0, 1) := by decide +kernel
theorem dX2_numberVariables_21 : decode cX2_numberVariables 21 = .ok (.getfield 15, 3) := by decide +kernel
theorem dX2_numberVariables_24 : decode cX2_numberVariables 24 = .ok (.getfield 68, 3) := by decide +kernel
theorem dX2_numberVariables_27 : decode cX2_numberVariables 27 = .ok (.iload_n 1, 1) := by decide +kernel
theorem dX2_numberVariables_28 : decode cX2_numberVariables 28 = .ok (.iaload, 1) := by decide +kernel
theorem dX2_numberVariables_29 : decode cX2_numberVariables 29 = .ok (.aload_n 0, 1) := by decide +kernel
theorem dX2_numberVariables_30 : decode cX2_numberVariables 30 = .ok (.getfield 15, 3) := by decide +kernel
theorem dX2_numberVariables_33 : decode cX2_numberVariables 33 = .ok (.getfield 133, 3) := by decide +kernel
theorem dX2_numberVariables_36 : decode cX2_numberVariables 36 = .ok (.iload_n 1, 1) := by decide +kernel
theorem dX2_numberVariables_37 : decode cX2_numberVariables 37 = .ok (.iaload, 1) := by decide +kernel
theorem dX2_numberVariables_38 : decode cX2_numberVariables 38 = .ok (.iastore, 1) := by decide +kernel
theorem dX2_numberVariables_39 : decode cX2_numberVariables 39 = .ok (.aload_n 0, 1) := by decide +kernel
theorem dX2_numberVariables_40 : decode cX2_numberVariables 40 = .ok (.getfield 15, 3) := by decide +kernel
theorem dX2_numberVariables_43 : decode cX2_numberVariables 43 = .ok (.getfield 156, 3) := by decide +kernel
theorem dX2_numberVariables_46 : decode cX2_numberVariables 46 = .ok (.iload_n 1, 1) := by decide +kernel
theorem dX2_numberVariables_47 : decode cX2_numberVariables 47 = .ok (.aload_n 0, 1) := by decide +kernel
theorem dX2_numberVariables_48 : decode cX2_numberVariables 48 = .ok (.getfield 15, 3) := by decide +kernel
theorem dX2_numberVariables_51 : decode cX2_numberVariables 51 = .ok (.getfield 139, 3) := by decide +kernel
theorem dX2_numberVariables_54 : decode cX2_numberVariables 54 = .ok (.iload_n 1, 1) := by decide +kernel
theorem dX2_numberVariables_55 : decode cX2_numberVariables 55 = .ok (.iaload, 1) := by decide +kernel
theorem dX2_numberVariables_56 : decode cX2_numberVariables 56 = .ok (.iastore, 1) := by decide +kernel
theorem dX2_numberVariables_57 : decode cX2_numberVariables 57 = .ok (.iinc 1 1, 3) := by decide +kernel
theorem dX2_numberVariables_60 : decode cX2_numberVariables 60 = .ok (.goto (-58), 3) := by decide +kernel
theorem dX2_numberVariables_63 : decode cX2_numberVariables 63 = .ok (.iconst 0, 1) := by decide +kernel
theorem dX2_numberVariables_64 : decode cX2_numberVariables 64 = .ok (.istore_n 1, 1) := by decide +kernel
theorem dX2_numberVariables_65 : decode cX2_numberVariables 65 = .ok (.iload_n 1, 1) := by decide +kernel
theorem dX2_numberVariables_66 : decode cX2_numberVariables 66 = .ok (.aload_n 0, 1) := by decide +kernel
theorem dX2_numberVariables_67 : decode cX2_numberVariables 67 = .ok (.getfield 19, 3) := by decide +kernel
theorem dX2_numberVariables_70 : decode cX2_numberVariables 70 = .ok (.getfield 71, 3) := by decide +kernel
theorem dX2_numberVariables_73 : decode cX2_numberVariables 73 = .ok (.if_icmp .ge 77, 3) := by decide +kernel
theorem dX2_numberVariables_76 : decode cX2_numberVariables 76 = .ok (.aload_n 0, 1) := by decide +kernel
theorem dX2_numberVariables_77 : decode cX2_numberVariables 77 = .ok (.getfield 19, 3) := by decide +kernel
theorem dX2_numberVariables_80 : decode cX2_numberVariables 80 = .ok (.iload_n 1, 1) := by decide +kernel
theorem dX2_numberVariables_81 : decode cX2_numberVariables 81 = .ok (.invokevirtual 74, 3) := by decide +kernel
theorem dX2_numberVariables_84 : decode cX2_numberVariables 84 = .ok (.ifCond .ne 60, 3) := by decide +kernel
theorem dX2_numberVariables_87 : decode cX2_numberVariables 87 = .ok (.aload_n 0, 1) := by decide +kernel
theorem dX2_numberVariables_88 : decode cX2_numberVariables 88 = .ok (.getfield 19, 3) := by decide +kernel
theorem dX2_numberVariables_91 : decode cX2_numberVariables 91 = .ok (.getfield 62, 3) := by decide +kernel
theorem dX2_numberVariables_94 : decode cX2_numberVariables 94 = .ok (.aload_n 0, 1) := by decide +kernel
theorem dX2_numberVariables_95 : decode cX2_numberVariables 95 = .ok (.getfield 19, 3) := by decide +kernel
theorem dX2_numberVariables_98 : decode cX2_numberVariables 98 = .ok (.getfield 120, 3) := by decide +kernel
theorem dX2_numberVariables_101 : decode cX2_numberVariables 101 = .ok (.iload_n 1, 1) := by decide +kernel
theorem dX2_numberVariables_102 : decode cX2_numberVariables 102 = .ok (.iaload, 1) := by decide +kernel
theorem dX2_numberVariables_103 : decode cX2_numberVariables 103 = .ok (.iaload, 1) := by decide +kernel
theorem dX2_numberVariables_104 : decode cX2_numberVariables 104 = .ok (.istore_n 2, 1) := by decide +kernel
theorem dX2_numberVariables_105 : decode cX2_numberVariables 105 = .ok (.aload_n 0, 1) := by decide +kernel
theorem dX2_numberVariables_106 : decode cX2_numberVariables 106 = .ok (.getfield 19, 3) := by decide +kernel
theorem dX2_numberVariables_109 : decode cX2_numberVariables 109 = .ok (.getfield 153, 3) := by decide +kernel
theorem dX2_numberVariables_112 : decode cX2_numberVariables 112 = .ok (.iload_n 1, 1) := by decide +kernel
theorem dX2_numberVariables_113 : decode cX2_numberVariables 113 = .ok (.aload_n 0, 1) := by decide +kernel
theorem dX2_numberVariables_114 : decode cX2_numberVariables 114 = .ok (.getfield 15, 3) := by decide +kernel
theorem dX2_numberVariables_117 : decode cX2_numberVariables 117 = .ok (.getfield 156, 3) := by decide +kernel
theorem dX2_numberVariables_120 : decode cX2_numberVariables 120 = .ok (.iload_n 2, 1) := by decide +kernel
theorem dX2_numberVariables_121 : decode cX2_numberVariables 121 = .ok (.iaload, 1) := by decide +kernel
theorem dX2_numberVariables_122 : decode cX2_numberVariables 122 = .ok (.iastore, 1) := by decide +kernel
theorem dX2_numberVariables_123 : decode cX2_numberVariables 123 = .ok (.aload_n 0, 1) := by decide +kernel
theorem dX2_numberVariables_124 : decode cX2_numberVariables 124 = .ok (.getfield 15, 3) := by decide +kernel
theorem dX2_numberVariables_127 : decode cX2_numberVariables 127 = .ok (.getfield 156, 3) := by decide +kernel
theorem dX2_numberVariables_130 : decode cX2_numberVariables 130 = .ok (.iload_n 2, 1) := by decide +kernel
theorem dX2_numberVariables_131 : decode cX2_numberVariables 131 = .ok (.dup2, 1) := by decide +kernel
theorem dX2_numberVariables_132 : decode cX2_numberVariables 132 = .ok (.iaload, 1) := by decide +kernel
theorem dX2_numberVariables_133 : decode cX2_numberVariables 133 = .ok (.aload_n 0, 1) := by decide +kernel
theorem dX2_numberVariables_134 : decode cX2_numberVariables 134 = .ok (.getfield 19, 3) := by decide +kernel
theorem dX2_numberVariables_137 : decode cX2_numberVariables 137 = .ok (.getfield 142, 3) := by decide +kernel
theorem dX2_numberVariables_140 : decode cX2_numberVariables 140 = .ok (.iload_n 1, 1) := by decide +kernel
theorem dX2_numberVariables_141 : decode cX2_numberVariables 141 = .ok (.iaload, 1) := by decide +kernel
theorem dX2_numberVariables_142 : decode cX2_numberVariables 142 = .ok (.iadd, 1) := by decide +kernel
theorem dX2_numberVariables_143 : decode cX2_numberVariables 143 = .ok (.iastore, 1) := by decide +kernel
theorem dX2_numberVariables_144 : decode cX2_numberVariables 144 = .ok (.iinc 1 1, 3) := by decide +kernel
theorem dX2_numberVariables_147 : decode cX2_numberVariables 147 = .ok (.goto (-82), 3) := by decide +kernel
theorem dX2_numberVariables_150 : decode cX2_numberVariables 150 = .ok (.return_, 1) := by decide +kernel
theorem dX2_passThrough_0 : decode cX2_passThrough 0 = .ok (.aload_n 0, 1) := by decide +kernel
theorem dX2_passThrough_1 : decode cX2_passThrough 1 = .ok (.getfield 19, 3) := by decide +kernel
theorem dX2_passThrough_4 : decode cX2_passThrough 4 = .ok (.getfield 120, 3) := by decide +kernel
theorem dX2_passThrough_7 : decode cX2_passThrough 7 = .ok (.iload_n 1, 1) := by decide +kernel
theorem dX2_passThrough_8 : decode cX2_passThrough 8 = .ok (.iconst 5, 1) := by decide +kernel
theorem dX2_passThrough_9 : decode cX2_passThrough 9 = .ok (.idiv, 1) := by decide +kernel
theorem dX2_passThrough_10 : decode cX2_passThrough 10 = .ok (.iaload, 1) := by decide +kernel
theorem dX2_passThrough_11 : decode cX2_passThrough 11 = .ok (.istore_n 3, 1) := by decide +kernel
theorem dX2_passThrough_12 : decode cX2_passThrough 12 = .ok (.iload_n 2, 1) := by decide +kernel
theorem dX2_passThrough_13 : decode cX2_passThrough 13 = .ok (.istore 4, 2) := by decide +kernel
theorem dX2_passThrough_15 : decode cX2_passThrough 15 = .ok (.iconst 0, 1) := by decide +kernel
theorem dX2_passThrough_16 : decode cX2_passThrough 16 = .ok (.istore 5, 2) := by decide +kernel
theorem dX2_passThrough_18 : decode cX2_passThrough 18 = .ok (.iload 5, 2) := by decide +kernel
theorem dX2_passThrough_20 : decode cX2_passThrough 20 = .ok (.sipush 700, 3) := by decide +kernel
theorem dX2_passThrough_23 : decode cX2_passThrough 23 = .ok (.if_icmp .ge 64, 3) := by decide +kernel
theorem dX2_passThrough_26 : decode cX2_passThrough 26 = .ok (.iload 4, 2) := by decide +kernel
theorem dX2_passThrough_28 : decode cX2_passThrough 28 = .ok (.iload_n 3, 1) := by decide +kernel
theorem dX2_passThrough_29 : decode cX2_passThrough 29 = .ok (.if_icmp .eq 58, 3) := by decide +kernel
theorem dX2_passThrough_32 : decode cX2_passThrough 32 = .ok (.aload_n 0, 1) := by decide +kernel
theorem dX2_passThrough_33 : decode cX2_passThrough 33 = .ok (.getfield 19, 3) := by decide +kernel
theorem dX2_passThrough_36 : decode cX2_passThrough 36 = .ok (.getfield 78, 3) := by decide +kernel
theorem dX2_passThrough_39 : decode cX2_passThrough 39 = .ok (.iload 4, 2) := by decide +kernel
theorem dX2_passThrough_41 : decode cX2_passThrough 41 = .ok (.iaload, 1) := by decide +kernel
theorem dX2_passThrough_42 : decode cX2_passThrough 42 = .ok (.iconst (-1), 1) := by decide +kernel
theorem dX2_passThrough_43 : decode cX2_passThrough 43 = .ok (.if_icmp .eq 44, 3) := by decide +kernel
theorem dX2_passThrough_46 : decode cX2_passThrough 46 = .ok (.aload_n 0, 1) := by decide +kernel
theorem dX2_passThrough_47 : decode cX2_passThrough 47 = .ok (.aload_n 0, 1) := by decide +kernel
theorem dX2_passThrough_48 : decode cX2_passThrough 48 = .ok (.getfield 19, 3) := by decide +kernel
theorem dX2_passThrough_51 : decode cX2_passThrough 51 = .ok (.getfield 62, 3) := by decide +kernel
theorem dX2_passThrough_54 : decode cX2_passThrough 54 = .ok (.iload 4, 2) := by decide +kernel
theorem dX2_passThrough_56 : decode cX2_passThrough 56 = .ok (.iaload, 1) := by decide +kernel
theorem dX2_passThrough_57 : decode cX2_passThrough 57 = .ok (.iload_n 1, 1) := by decide +kernel
theorem dX2_passThrough_58 : decode cX2_passThrough 58 = .ok (.invokevirtual 126, 3) := by decide +kernel
theorem dX2_passThrough_61 : decode cX2_passThrough 61 = .ok (.aload_n 0, 1) := by decide +kernel
theorem dX2_passThrough_62 : decode cX2_passThrough 62 = .ok (.getfield 19, 3) := by decide +kernel
theorem dX2_passThrough_65 : decode cX2_passThrough 65 = .ok (.getfield 120, 3) := by decide +kernel
theorem dX2_passThrough_68 : decode cX2_passThrough 68 = .ok (.aload_n 0, 1) := by decide +kernel
theorem dX2_passThrough_69 : decode cX2_passThrough 69 = .ok (.getfield 19, 3) := by decide +kernel
theorem dX2_passThrough_72 : decode cX2_passThrough 72 = .ok (.getfield 78, 3) := by decide +kernel
theorem dX2_passThrough_75 : decode cX2_passThrough 75 = .ok (.iload 4, 2) := by decide +kernel
theorem dX2_passThrough_77 : decode cX2_passThrough 77 = .ok (.iaload, 1) := by decide +kernel
theorem dX2_passThrough_78 : decode cX2_passThrough 78 = .ok (.iaload, 1) := by decide +kernel
theorem dX2_passThrough_79 : decode cX2_passThrough 79 = .ok (.istore 4, 2) := by decide +kernel
theorem dX2_passThrough_81 : decode cX2_passThrough 81 = .ok (.iinc 5 1, 3) := by decide +kernel
theorem dX2_passThrough_84 : decode cX2_passThrough 84 = .ok (.goto (-66), 3) := by decide +kernel
theorem dX2_passThrough_87 : decode cX2_passThrough 87 = .ok (.return_, 1) := by decide +kernel
theorem dX2_plantLeaf_0 : decode cX2_plantLeaf 0 = .ok (.aload_n 0, 1) := by decide +kernel
theorem dX2_plantLeaf_1 : decode cX2_plantLeaf 1 = .ok (.getfield 9, 3) := by decide +kernel
theorem dX2_plantLeaf_4 : decode cX2_plantLeaf 4 = .ok (.iload_n 1, 1) := by decide +kernel
theorem dX2_plantLeaf_5 : decode cX2_plantLeaf 5 = .ok (.iload_n 2, 1) := by decide +kernel
theorem dX2_plantLeaf_6 : decode cX2_plantLeaf 6 = .ok (.invokevirtual 211, 3) := by decide +kernel
theorem dX2_plantLeaf_9 : decode cX2_plantLeaf 9 = .ok (.istore_n 3, 1) := by decide +kernel
theorem dX2_plantLeaf_10 : decode cX2_plantLeaf 10 = .ok (.aload_n 0, 1) := by decide +kernel
theorem dX2_plantLeaf_11 : decode cX2_plantLeaf 11 = .ok (.getfield 9, 3) := by decide +kernel
theorem dX2_plantLeaf_14 : decode cX2_plantLeaf 14 = .ok (.iload_n 3, 1) := by decide +kernel
theorem dX2_plantLeaf_15 : decode cX2_plantLeaf 15 = .ok (.invokevirtual 187, 3) := by decide +kernel
theorem dX2_plantLeaf_18 : decode cX2_plantLeaf 18 = .ok (.iload_n 3, 1) := by decide +kernel
theorem dX2_plantLeaf_19 : decode cX2_plantLeaf 19 = .ok (.ireturn, 1) := by decide +kernel
theorem dX2_plantLifted_0 : decode cX2_plantLifted 0 = .ok (.aload_n 0, 1) := by decide +kernel
theorem dX2_plantLifted_1 : decode cX2_plantLifted 1 = .ok (.getfield 19, 3) := by decide +kernel
theorem dX2_plantLifted_4 : decode cX2_plantLifted 4 = .ok (.getfield 62, 3) := by decide +kernel
theorem dX2_plantLifted_7 : decode cX2_plantLifted 7 = .ok (.iload_n 2, 1) := by decide +kernel
theorem dX2_plantLifted_8 : decode cX2_plantLifted 8 = .ok (.iaload, 1) := by decide +kernel
theorem dX2_plantLifted_9 : decode cX2_plantLifted 9 = .ok (.istore_n 3, 1) := by decide +kernel
theorem dX2_plantLifted_10 : decode cX2_plantLifted 10 = .ok (.aload_n 0, 1) := by decide +kernel
theorem dX2_plantLifted_11 : decode cX2_plantLifted 11 = .ok (.getfield 15, 3) := by decide +kernel
theorem dX2_plantLifted_14 : decode cX2_plantLifted 14 = .ok (.getfield 133, 3) := by decide +kernel
theorem dX2_plantLifted_17 : decode cX2_plantLifted 17 = .ok (.iload_n 3, 1) := by decide +kernel
theorem dX2_plantLifted_18 : decode cX2_plantLifted 18 = .ok (.iaload, 1) := by decide +kernel
theorem dX2_plantLifted_19 : decode cX2_plantLifted 19 = .ok (.ifCond .ne 14, 3) := by decide +kernel
theorem dX2_plantLifted_22 : decode cX2_plantLifted 22 = .ok (.aload_n 0, 1) := by decide +kernel
theorem dX2_plantLifted_23 : decode cX2_plantLifted 23 = .ok (.getfield 9, 3) := by decide +kernel
theorem dX2_plantLifted_26 : decode cX2_plantLifted 26 = .ok (.iload_n 1, 1) := by decide +kernel
theorem dX2_plantLifted_27 : decode cX2_plantLifted 27 = .ok (.iconst 2, 1) := by decide +kernel
theorem dX2_plantLifted_28 : decode cX2_plantLifted 28 = .ok (.iload_n 3, 1) := by decide +kernel
theorem dX2_plantLifted_29 : decode cX2_plantLifted 29 = .ok (.invokevirtual 167, 3) := by decide +kernel
theorem dX2_plantLifted_32 : decode cX2_plantLifted 32 = .ok (.return_, 1) := by decide +kernel
theorem dX2_plantLifted_33 : decode cX2_plantLifted 33 = .ok (.aload_n 0, 1) := by decide +kernel
theorem dX2_plantLifted_34 : decode cX2_plantLifted 34 = .ok (.getfield 19, 3) := by decide +kernel
theorem dX2_plantLifted_37 : decode cX2_plantLifted 37 = .ok (.getfield 62, 3) := by decide +kernel
theorem dX2_plantLifted_40 : decode cX2_plantLifted 40 = .ok (.aload_n 0, 1) := by decide +kernel
theorem dX2_plantLifted_41 : decode cX2_plantLifted 41 = .ok (.getfield 19, 3) := by decide +kernel
theorem dX2_plantLifted_44 : decode cX2_plantLifted 44 = .ok (.getfield 120, 3) := by decide +kernel
theorem dX2_plantLifted_47 : decode cX2_plantLifted 47 = .ok (.aload_n 0, 1) := by decide +kernel
theorem dX2_plantLifted_48 : decode cX2_plantLifted 48 = .ok (.getfield 19, 3) := by decide +kernel
theorem dX2_plantLifted_51 : decode cX2_plantLifted 51 = .ok (.getfield 78, 3) := by decide +kernel
theorem dX2_plantLifted_54 : decode cX2_plantLifted 54 = .ok (.iload_n 2, 1) := by decide +kernel
theorem dX2_plantLifted_55 : decode cX2_plantLifted 55 = .ok (.iaload, 1) := by decide +kernel
theorem dX2_plantLifted_56 : decode cX2_plantLifted 56 = .ok (.iaload, 1) := by decide +kernel
theorem dX2_plantLifted_57 : decode cX2_plantLifted 57 = .ok (.iaload, 1) := by decide +kernel
theorem dX2_plantLifted_58 : decode cX2_plantLifted 58 = .ok (.istore 4, 2) := by decide +kernel
theorem dX2_plantLifted_60 : decode cX2_plantLifted 60 = .ok (.aload_n 0, 1) := by decide +kernel
theorem dX2_plantLifted_61 : decode cX2_plantLifted 61 = .ok (.iconst 2, 1) := by decide +kernel
theorem dX2_plantLifted_62 : decode cX2_plantLifted 62 = .ok (.iload_n 3, 1) := by decide +kernel
theorem dX2_plantLifted_63 : decode cX2_plantLifted 63 = .ok (.invokevirtual 205, 3) := by decide +kernel
theorem dX2_plantLifted_66 : decode cX2_plantLifted 66 = .ok (.istore 5, 2) := by decide +kernel
theorem dX2_plantLifted_68 : decode cX2_plantLifted 68 = .ok (.aload_n 0, 1) := by decide +kernel
theorem dX2_plantLifted_69 : decode cX2_plantLifted 69 = .ok (.getfield 9, 3) := by decide +kernel
theorem dX2_plantLifted_72 : decode cX2_plantLifted 72 = .ok (.iload_n 1, 1) := by decide +kernel
theorem dX2_plantLifted_73 : decode cX2_plantLifted 73 = .ok (.bipush 8, 2) := by decide +kernel
theorem dX2_plantLifted_75 : decode cX2_plantLifted 75 = .ok (.iconst 0, 1) := by decide +kernel
theorem dX2_plantLifted_76 : decode cX2_plantLifted 76 = .ok (.invokevirtual 167, 3) := by decide +kernel
theorem dX2_plantLifted_79 : decode cX2_plantLifted 79 = .ok (.aload_n 0, 1) := by decide +kernel
theorem dX2_plantLifted_80 : decode cX2_plantLifted 80 = .ok (.getfield 9, 3) := by decide +kernel
theorem dX2_plantLifted_83 : decode cX2_plantLifted 83 = .ok (.getfield 199, 3) := by decide +kernel
theorem dX2_plantLifted_86 : decode cX2_plantLifted 86 = .ok (.iload_n 1, 1) := by decide +kernel
theorem dX2_plantLifted_87 : decode cX2_plantLifted 87 = .ok (.aload_n 0, 1) := by decide +kernel
theorem dX2_plantLifted_88 : decode cX2_plantLifted 88 = .ok (.getfield 15, 3) := by decide +kernel
theorem dX2_plantLifted_91 : decode cX2_plantLifted 91 = .ok (.getfield 133, 3) := by decide +kernel
theorem dX2_plantLifted_94 : decode cX2_plantLifted 94 = .ok (.iload_n 3, 1) := by decide +kernel
theorem dX2_plantLifted_95 : decode cX2_plantLifted 95 = .ok (.iaload, 1) := by decide +kernel
theorem dX2_plantLifted_96 : decode cX2_plantLifted 96 = .ok (.iastore, 1) := by decide +kernel
theorem dX2_plantLifted_97 : decode cX2_plantLifted 97 = .ok (.aload_n 0, 1) := by decide +kernel
theorem dX2_plantLifted_98 : decode cX2_plantLifted 98 = .ok (.getfield 9, 3) := by decide +kernel
theorem dX2_plantLifted_101 : decode cX2_plantLifted 101 = .ok (.getfield 184, 3) := by decide +kernel
theorem dX2_plantLifted_104 : decode cX2_plantLifted 104 = .ok (.iload_n 1, 1) := by decide +kernel
theorem dX2_plantLifted_105 : decode cX2_plantLifted 105 = .ok (.iload 5, 2) := by decide +kernel
theorem dX2_plantLifted_107 : decode cX2_plantLifted 107 = .ok (.iastore, 1) := by decide +kernel
theorem dX2_plantLifted_108 : decode cX2_plantLifted 108 = .ok (.iconst 0, 1) := by decide +kernel
theorem dX2_plantLifted_109 : decode cX2_plantLifted 109 = .ok (.istore 6, 2) := by decide +kernel
theorem dX2_plantLifted_111 : decode cX2_plantLifted 111 = .ok (.iload 6, 2) := by decide +kernel
theorem dX2_plantLifted_113 : decode cX2_plantLifted 113 = .ok (.aload_n 0, 1) := by decide +kernel
theorem dX2_plantLifted_114 : decode cX2_plantLifted 114 = .ok (.getfield 15, 3) := by decide +kernel
theorem dX2_plantLifted_117 : decode cX2_plantLifted 117 = .ok (.getfield 133, 3) := by decide +kernel
theorem dX2_plantLifted_120 : decode cX2_plantLifted 120 = .ok (.iload_n 3, 1) := by decide +kernel
theorem dX2_plantLifted_121 : decode cX2_plantLifted 121 = .ok (.iaload, 1) := by decide +kernel
theorem dX2_plantLifted_122 : decode cX2_plantLifted 122 = .ok (.if_icmp .ge 60, 3) := by decide +kernel
theorem dX2_plantLifted_125 : decode cX2_plantLifted 125 = .ok (.iload 6, 2) := by decide +kernel
theorem dX2_plantLifted_127 : decode cX2_plantLifted 127 = .ok (.bipush 8, 2) := by decide +kernel
theorem dX2_plantLifted_129 : decode cX2_plantLifted 129 = .ok (.if_icmp .ge 53, 3) := by decide +kernel
theorem dX2_plantLifted_132 : decode cX2_plantLifted 132 = .ok (.aload_n 0, 1) := by decide +kernel
theorem dX2_plantLifted_133 : decode cX2_plantLifted 133 = .ok (.iconst 3, 1) := by decide +kernel
theorem dX2_plantLifted_134 : decode cX2_plantLifted 134 = .ok (.aload_n 0, 1) := by decide +kernel
theorem dX2_plantLifted_135 : decode cX2_plantLifted 135 = .ok (.iload 4, 2) := by decide +kernel
theorem dX2_plantLifted_137 : decode cX2_plantLifted 137 = .ok (.aload_n 0, 1) := by decide +kernel
theorem dX2_plantLifted_138 : decode cX2_plantLifted 138 = .ok (.getfield 15, 3) := by decide +kernel
theorem dX2_plantLifted_141 : decode cX2_plantLifted 141 = .ok (.getfield 136, 3) := by decide +kernel
theorem dX2_plantLifted_144 : decode cX2_plantLifted 144 = .ok (.iload_n 3, 1) := by decide +kernel
theorem dX2_plantLifted_145 : decode cX2_plantLifted 145 = .ok (.bipush 8, 2) := by decide +kernel
theorem dX2_plantLifted_147 : decode cX2_plantLifted 147 = .ok (.imul, 1) := by decide +kernel
theorem dX2_plantLifted_148 : decode cX2_plantLifted 148 = .ok (.iload 6, 2) := by decide +kernel
theorem dX2_plantLifted_150 : decode cX2_plantLifted 150 = .ok (.iadd, 1) := by decide +kernel
theorem dX2_plantLifted_151 : decode cX2_plantLifted 151 = .ok (.iaload, 1) := by decide +kernel
theorem dX2_plantLifted_152 : decode cX2_plantLifted 152 = .ok (.invokevirtual 173, 3) := by decide +kernel
theorem dX2_plantLifted_155 : decode cX2_plantLifted 155 = .ok (.invokevirtual 205, 3) := by decide +kernel
theorem dX2_plantLifted_158 : decode cX2_plantLifted 158 = .ok (.istore 7, 2) := by decide +kernel
theorem dX2_plantLifted_160 : decode cX2_plantLifted 160 = .ok (.aload_n 0, 1) := by decide +kernel
theorem dX2_plantLifted_161 : decode cX2_plantLifted 161 = .ok (.getfield 9, 3) := by decide +kernel
theorem dX2_plantLifted_164 : decode cX2_plantLifted 164 = .ok (.getfield 208, 3) := by decide +kernel
theorem dX2_plantLifted_167 : decode cX2_plantLifted 167 = .ok (.iload 5, 2) := by decide +kernel
theorem dX2_plantLifted_169 : decode cX2_plantLifted 169 = .ok (.iload 7, 2) := by decide +kernel
theorem dX2_plantLifted_171 : decode cX2_plantLifted 171 = .ok (.iastore, 1) := by decide +kernel
theorem dX2_plantLifted_172 : decode cX2_plantLifted 172 = .ok (.iload 7, 2) := by decide +kernel
theorem dX2_plantLifted_174 : decode cX2_plantLifted 174 = .ok (.istore 5, 2) := by decide +kernel
theorem dX2_plantLifted_176 : decode cX2_plantLifted 176 = .ok (.iinc 6 1, 3) := by decide +kernel
theorem dX2_plantLifted_179 : decode cX2_plantLifted 179 = .ok (.goto (-68), 3) := by decide +kernel
theorem dX2_plantLifted_182 : decode cX2_plantLifted 182 = .ok (.return_, 1) := by decide +kernel
theorem dX2_plantNode_0 : decode cX2_plantNode 0 = .ok (.aload_n 0, 1) := by decide +kernel
theorem dX2_plantNode_1 : decode cX2_plantNode 1 = .ok (.getfield 9, 3) := by decide +kernel
theorem dX2_plantNode_4 : decode cX2_plantNode 4 = .ok (.getfield 181, 3) := by decide +kernel
theorem dX2_plantNode_7 : decode cX2_plantNode 7 = .ok (.iload_n 1, 1) := by decide +kernel
theorem dX2_plantNode_8 : decode cX2_plantNode 8 = .ok (.iaload, 1) := by decide +kernel
theorem dX2_plantNode_9 : decode cX2_plantNode 9 = .ok (.tableswitch 167 7 14 #[47, 167, 167, 84, 121, 167, 167, 150], 47) := by decide +kernel
theorem dX2_plantNode_56 : decode cX2_plantNode 56 = .ok (.aload_n 0, 1) := by decide +kernel
theorem dX2_plantNode_57 : decode cX2_plantNode 57 = .ok (.getfield 9, 3) := by decide +kernel
theorem dX2_plantNode_60 : decode cX2_plantNode 60 = .ok (.getfield 199, 3) := by decide +kernel
theorem dX2_plantNode_63 : decode cX2_plantNode 63 = .ok (.iload_n 1, 1) := by decide +kernel
theorem dX2_plantNode_64 : decode cX2_plantNode 64 = .ok (.aload_n 0, 1) := by decide +kernel
theorem dX2_plantNode_65 : decode cX2_plantNode 65 = .ok (.getfield 19, 3) := by decide +kernel
theorem dX2_plantNode_68 : decode cX2_plantNode 68 = .ok (.getfield 62, 3) := by decide +kernel
theorem dX2_plantNode_71 : decode cX2_plantNode 71 = .ok (.aload_n 0, 1) := by decide +kernel
theorem dX2_plantNode_72 : decode cX2_plantNode 72 = .ok (.getfield 19, 3) := by decide +kernel
theorem dX2_plantNode_75 : decode cX2_plantNode 75 = .ok (.getfield 120, 3) := by decide +kernel
theorem dX2_plantNode_78 : decode cX2_plantNode 78 = .ok (.aload_n 0, 1) := by decide +kernel
theorem dX2_plantNode_79 : decode cX2_plantNode 79 = .ok (.getfield 9, 3) := by decide +kernel
theorem dX2_plantNode_82 : decode cX2_plantNode 82 = .ok (.getfield 199, 3) := by decide +kernel
theorem dX2_plantNode_85 : decode cX2_plantNode 85 = .ok (.iload_n 1, 1) := by decide +kernel
theorem dX2_plantNode_86 : decode cX2_plantNode 86 = .ok (.iaload, 1) := by decide +kernel
theorem dX2_plantNode_87 : decode cX2_plantNode 87 = .ok (.iaload, 1) := by decide +kernel
theorem dX2_plantNode_88 : decode cX2_plantNode 88 = .ok (.iaload, 1) := by decide +kernel
theorem dX2_plantNode_89 : decode cX2_plantNode 89 = .ok (.iastore, 1) := by decide +kernel
theorem dX2_plantNode_90 : decode cX2_plantNode 90 = .ok (.goto 86, 3) := by decide +kernel
theorem dX2_plantNode_93 : decode cX2_plantNode 93 = .ok (.aload_n 0, 1) := by decide +kernel
theorem dX2_plantNode_94 : decode cX2_plantNode 94 = .ok (.getfield 9, 3) := by decide +kernel
theorem dX2_plantNode_97 : decode cX2_plantNode 97 = .ok (.getfield 193, 3) := by decide +kernel
theorem dX2_plantNode_100 : decode cX2_plantNode 100 = .ok (.iload_n 1, 1) := by decide +kernel
theorem dX2_plantNode_101 : decode cX2_plantNode 101 = .ok (.iaload, 1) := by decide +kernel
theorem dX2_plantNode_102 : decode cX2_plantNode 102 = .ok (.istore_n 2, 1) := by decide +kernel
theorem dX2_plantNode_103 : decode cX2_plantNode 103 = .ok (.aload_n 0, 1) := by decide +kernel
theorem dX2_plantNode_104 : decode cX2_plantNode 104 = .ok (.getfield 9, 3) := by decide +kernel
theorem dX2_plantNode_107 : decode cX2_plantNode 107 = .ok (.getfield 193, 3) := by decide +kernel
theorem dX2_plantNode_110 : decode cX2_plantNode 110 = .ok (.iload_n 1, 1) := by decide +kernel
theorem dX2_plantNode_111 : decode cX2_plantNode 111 = .ok (.aload_n 0, 1) := by decide +kernel
theorem dX2_plantNode_112 : decode cX2_plantNode 112 = .ok (.getfield 19, 3) := by decide +kernel
theorem dX2_plantNode_115 : decode cX2_plantNode 115 = .ok (.getfield 153, 3) := by decide +kernel
theorem dX2_plantNode_118 : decode cX2_plantNode 118 = .ok (.iload_n 2, 1) := by decide +kernel
theorem dX2_plantNode_119 : decode cX2_plantNode 119 = .ok (.iconst 5, 1) := by decide +kernel
theorem dX2_plantNode_120 : decode cX2_plantNode 120 = .ok (.idiv, 1) := by decide +kernel
theorem dX2_plantNode_121 : decode cX2_plantNode 121 = .ok (.iaload, 1) := by decide +kernel
theorem dX2_plantNode_122 : decode cX2_plantNode 122 = .ok (.iload_n 2, 1) := by decide +kernel
theorem dX2_plantNode_123 : decode cX2_plantNode 123 = .ok (.iconst 5, 1) := by decide +kernel
theorem dX2_plantNode_124 : decode cX2_plantNode 124 = .ok (.irem, 1) := by decide +kernel
theorem dX2_plantNode_125 : decode cX2_plantNode 125 = .ok (.iadd, 1) := by decide +kernel
theorem dX2_plantNode_126 : decode cX2_plantNode 126 = .ok (.iastore, 1) := by decide +kernel
theorem dX2_plantNode_127 : decode cX2_plantNode 127 = .ok (.goto 49, 3) := by decide +kernel
theorem dX2_plantNode_130 : decode cX2_plantNode 130 = .ok (.aload_n 0, 1) := by decide +kernel
theorem dX2_plantNode_131 : decode cX2_plantNode 131 = .ok (.getfield 9, 3) := by decide +kernel
theorem dX2_plantNode_134 : decode cX2_plantNode 134 = .ok (.getfield 199, 3) := by decide +kernel
theorem dX2_plantNode_137 : decode cX2_plantNode 137 = .ok (.iload_n 1, 1) := by decide +kernel
theorem dX2_plantNode_138 : decode cX2_plantNode 138 = .ok (.aload_n 0, 1) := by decide +kernel
theorem dX2_plantNode_139 : decode cX2_plantNode 139 = .ok (.getfield 19, 3) := by decide +kernel
theorem dX2_plantNode_142 : decode cX2_plantNode 142 = .ok (.getfield 153, 3) := by decide +kernel
theorem dX2_plantNode_145 : decode cX2_plantNode 145 = .ok (.aload_n 0, 1) := by decide +kernel
theorem dX2_plantNode_146 : decode cX2_plantNode 146 = .ok (.getfield 9, 3) := by decide +kernel
theorem dX2_plantNode_149 : decode cX2_plantNode 149 = .ok (.getfield 199, 3) := by decide +kernel
theorem dX2_plantNode_152 : decode cX2_plantNode 152 = .ok (.iload_n 1, 1) := by decide +kernel
theorem dX2_plantNode_153 : decode cX2_plantNode 153 = .ok (.iaload, 1) := by decide +kernel
theorem dX2_plantNode_154 : decode cX2_plantNode 154 = .ok (.iaload, 1) := by decide +kernel
theorem dX2_plantNode_155 : decode cX2_plantNode 155 = .ok (.iastore, 1) := by decide +kernel
theorem dX2_plantNode_156 : decode cX2_plantNode 156 = .ok (.goto 20, 3) := by decide +kernel
theorem dX2_plantNode_159 : decode cX2_plantNode 159 = .ok (.aload_n 0, 1) := by decide +kernel
theorem dX2_plantNode_160 : decode cX2_plantNode 160 = .ok (.iload_n 1, 1) := by decide +kernel
theorem dX2_plantNode_161 : decode cX2_plantNode 161 = .ok (.aload_n 0, 1) := by decide +kernel
theorem dX2_plantNode_162 : decode cX2_plantNode 162 = .ok (.getfield 9, 3) := by decide +kernel
theorem dX2_plantNode_165 : decode cX2_plantNode 165 = .ok (.getfield 193, 3) := by decide +kernel
theorem dX2_plantNode_168 : decode cX2_plantNode 168 = .ok (.iload_n 1, 1) := by decide +kernel
theorem dX2_plantNode_169 : decode cX2_plantNode 169 = .ok (.iaload, 1) := by decide +kernel
theorem dX2_plantNode_170 : decode cX2_plantNode 170 = .ok (.invokevirtual 202, 3) := by decide +kernel
theorem dX2_plantNode_173 : decode cX2_plantNode 173 = .ok (.goto 3, 3) := by decide +kernel
theorem dX2_plantNode_176 : decode cX2_plantNode 176 = .ok (.return_, 1) := by decide +kernel
theorem dX2_plantNodes_0 : decode cX2_plantNodes 0 = .ok (.aload_n 0, 1) := by decide +kernel
theorem dX2_plantNodes_1 : decode cX2_plantNodes 1 = .ok (.getfield 9, 3) := by decide +kernel
theorem dX2_plantNodes_4 : decode cX2_plantNodes 4 = .ok (.getfield 176, 3) := by decide +kernel
theorem dX2_plantNodes_7 : decode cX2_plantNodes 7 = .ok (.istore_n 1, 1) := by decide +kernel
theorem dX2_plantNodes_8 : decode cX2_plantNodes 8 = .ok (.iconst 0, 1) := by decide +kernel
theorem dX2_plantNodes_9 : decode cX2_plantNodes 9 = .ok (.istore_n 2, 1) := by decide +kernel
theorem dX2_plantNodes_10 : decode cX2_plantNodes 10 = .ok (.iload_n 2, 1) := by decide +kernel
theorem dX2_plantNodes_11 : decode cX2_plantNodes 11 = .ok (.iload_n 1, 1) := by decide +kernel
theorem dX2_plantNodes_12 : decode cX2_plantNodes 12 = .ok (.if_icmp .ge 83, 3) := by decide +kernel
theorem dX2_plantNodes_15 : decode cX2_plantNodes 15 = .ok (.aload_n 0, 1) := by decide +kernel
theorem dX2_plantNodes_16 : decode cX2_plantNodes 16 = .ok (.iload_n 2, 1) := by decide +kernel
theorem dX2_plantNodes_17 : decode cX2_plantNodes 17 = .ok (.invokevirtual 177, 3) := by decide +kernel
theorem dX2_plantNodes_20 : decode cX2_plantNodes 20 = .ok (.aload_n 0, 1) := by decide +kernel
theorem dX2_plantNodes_21 : decode cX2_plantNodes 21 = .ok (.getfield 9, 3) := by decide +kernel
theorem dX2_plantNodes_24 : decode cX2_plantNodes 24 = .ok (.getfield 181, 3) := by decide +kernel
theorem dX2_plantNodes_27 : decode cX2_plantNodes 27 = .ok (.iload_n 2, 1) := by decide +kernel
theorem dX2_plantNodes_28 : decode cX2_plantNodes 28 = .ok (.iaload, 1) := by decide +kernel
theorem dX2_plantNodes_29 : decode cX2_plantNodes 29 = .ok (.istore_n 3, 1) := by decide +kernel
theorem dX2_plantNodes_30 : decode cX2_plantNodes 30 = .ok (.aload_n 0, 1) := by decide +kernel
theorem dX2_plantNodes_31 : decode cX2_plantNodes 31 = .ok (.getfield 9, 3) := by decide +kernel
theorem dX2_plantNodes_34 : decode cX2_plantNodes 34 = .ok (.getfield 184, 3) := by decide +kernel
theorem dX2_plantNodes_37 : decode cX2_plantNodes 37 = .ok (.iload_n 2, 1) := by decide +kernel
theorem dX2_plantNodes_38 : decode cX2_plantNodes 38 = .ok (.iaload, 1) := by decide +kernel
theorem dX2_plantNodes_39 : decode cX2_plantNodes 39 = .ok (.iconst (-1), 1) := by decide +kernel
theorem dX2_plantNodes_40 : decode cX2_plantNodes 40 = .ok (.if_icmp .ne 14, 3) := by decide +kernel
theorem dX2_plantNodes_43 : decode cX2_plantNodes 43 = .ok (.aload_n 0, 1) := by decide +kernel
theorem dX2_plantNodes_44 : decode cX2_plantNodes 44 = .ok (.getfield 9, 3) := by decide +kernel
theorem dX2_plantNodes_47 : decode cX2_plantNodes 47 = .ok (.iload_n 2, 1) := by decide +kernel
theorem dX2_plantNodes_48 : decode cX2_plantNodes 48 = .ok (.invokevirtual 187, 3) := by decide +kernel
theorem dX2_plantNodes_51 : decode cX2_plantNodes 51 = .ok (.goto 38, 3) := by decide +kernel
theorem dX2_plantNodes_54 : decode cX2_plantNodes 54 = .ok (.aload_n 0, 1) := by decide +kernel
theorem dX2_plantNodes_55 : decode cX2_plantNodes 55 = .ok (.getfield 9, 3) := by decide +kernel
theorem dX2_plantNodes_58 : decode cX2_plantNodes 58 = .ok (.iload_n 2, 1) := by decide +kernel
theorem dX2_plantNodes_59 : decode cX2_plantNodes 59 = .ok (.iload_n 3, 1) := by decide +kernel
theorem dX2_plantNodes_60 : decode cX2_plantNodes 60 = .ok (.bipush 11, 2) := by decide +kernel
theorem dX2_plantNodes_62 : decode cX2_plantNodes 62 = .ok (.if_icmp .ne 23, 3) := by decide +kernel
theorem dX2_plantNodes_65 : decode cX2_plantNodes 65 = .ok (.aload_n 0, 1) := by decide +kernel
theorem dX2_plantNodes_66 : decode cX2_plantNodes 66 = .ok (.getfield 15, 3) := by decide +kernel
theorem dX2_plantNodes_69 : decode cX2_plantNodes 69 = .ok (.getfield 190, 3) := by decide +kernel
theorem dX2_plantNodes_72 : decode cX2_plantNodes 72 = .ok (.aload_n 0, 1) := by decide +kernel
theorem dX2_plantNodes_73 : decode cX2_plantNodes 73 = .ok (.getfield 9, 3) := by decide +kernel
theorem dX2_plantNodes_76 : decode cX2_plantNodes 76 = .ok (.getfield 193, 3) := by decide +kernel
theorem dX2_plantNodes_79 : decode cX2_plantNodes 79 = .ok (.iload_n 2, 1) := by decide +kernel
theorem dX2_plantNodes_80 : decode cX2_plantNodes 80 = .ok (.iaload, 1) := by decide +kernel
theorem dX2_plantNodes_81 : decode cX2_plantNodes 81 = .ok (.iaload, 1) := by decide +kernel
theorem dX2_plantNodes_82 : decode cX2_plantNodes 82 = .ok (.goto 4, 3) := by decide +kernel
theorem dX2_plantNodes_85 : decode cX2_plantNodes 85 = .ok (.iconst 0, 1) := by decide +kernel
theorem dX2_plantNodes_86 : decode cX2_plantNodes 86 = .ok (.invokevirtual 196, 3) := by decide +kernel
theorem dX2_plantNodes_89 : decode cX2_plantNodes 89 = .ok (.iinc 2 1, 3) := by decide +kernel
theorem dX2_plantNodes_92 : decode cX2_plantNodes 92 = .ok (.goto (-82), 3) := by decide +kernel
theorem dX2_plantNodes_95 : decode cX2_plantNodes 95 = .ok (.return_, 1) := by decide +kernel
theorem dX2_plantUses_0 : decode cX2_plantUses 0 = .ok (.iconst 0, 1) := by decide +kernel
theorem dX2_plantUses_1 : decode cX2_plantUses 1 = .ok (.istore_n 1, 1) := by decide +kernel
theorem dX2_plantUses_2 : decode cX2_plantUses 2 = .ok (.iload_n 1, 1) := by decide +kernel
theorem dX2_plantUses_3 : decode cX2_plantUses 3 = .ok (.aload_n 0, 1) := by decide +kernel
theorem dX2_plantUses_4 : decode cX2_plantUses 4 = .ok (.getfield 19, 3) := by decide +kernel
theorem dX2_plantUses_7 : decode cX2_plantUses 7 = .ok (.getfield 92, 3) := by decide +kernel
theorem dX2_plantUses_10 : decode cX2_plantUses 10 = .ok (.if_icmp .ge 92, 3) := by decide +kernel
theorem dX2_plantUses_13 : decode cX2_plantUses 13 = .ok (.aload_n 0, 1) := by decide +kernel
theorem dX2_plantUses_14 : decode cX2_plantUses 14 = .ok (.getfield 19, 3) := by decide +kernel
theorem dX2_plantUses_17 : decode cX2_plantUses 17 = .ok (.getfield 117, 3) := by decide +kernel
theorem dX2_plantUses_20 : decode cX2_plantUses 20 = .ok (.iload_n 1, 1) := by decide +kernel
theorem dX2_plantUses_21 : decode cX2_plantUses 21 = .ok (.iaload, 1) := by decide +kernel
theorem dX2_plantUses_22 : decode cX2_plantUses 22 = .ok (.istore_n 2, 1) := by decide +kernel
theorem dX2_plantUses_23 : decode cX2_plantUses 23 = .ok (.aload_n 0, 1) := by decide +kernel
theorem dX2_plantUses_24 : decode cX2_plantUses 24 = .ok (.getfield 19, 3) := by decide +kernel
theorem dX2_plantUses_27 : decode cX2_plantUses 27 = .ok (.getfield 164, 3) := by decide +kernel
theorem dX2_plantUses_30 : decode cX2_plantUses 30 = .ok (.iload_n 1, 1) := by decide +kernel
theorem dX2_plantUses_31 : decode cX2_plantUses 31 = .ok (.iaload, 1) := by decide +kernel
theorem dX2_plantUses_32 : decode cX2_plantUses 32 = .ok (.istore_n 3, 1) := by decide +kernel
theorem dX2_plantUses_33 : decode cX2_plantUses 33 = .ok (.iload_n 2, 1) := by decide +kernel
theorem dX2_plantUses_34 : decode cX2_plantUses 34 = .ok (.ifCond .ge 19, 3) := by decide +kernel
theorem dX2_plantUses_37 : decode cX2_plantUses 37 = .ok (.aload_n 0, 1) := by decide +kernel
theorem dX2_plantUses_38 : decode cX2_plantUses 38 = .ok (.getfield 9, 3) := by decide +kernel
theorem dX2_plantUses_41 : decode cX2_plantUses 41 = .ok (.iload_n 3, 1) := by decide +kernel
theorem dX2_plantUses_42 : decode cX2_plantUses 42 = .ok (.iconst 2, 1) := by decide +kernel
theorem dX2_plantUses_43 : decode cX2_plantUses 43 = .ok (.bipush (-2), 2) := by decide +kernel
theorem dX2_plantUses_45 : decode cX2_plantUses 45 = .ok (.iload_n 2, 1) := by decide +kernel
theorem dX2_plantUses_46 : decode cX2_plantUses 46 = .ok (.isub, 1) := by decide +kernel
theorem dX2_plantUses_47 : decode cX2_plantUses 47 = .ok (.invokevirtual 167, 3) := by decide +kernel
theorem dX2_plantUses_50 : decode cX2_plantUses 50 = .ok (.goto 46, 3) := by decide +kernel
theorem dX2_plantUses_53 : decode cX2_plantUses 53 = .ok (.aload_n 0, 1) := by decide +kernel
theorem dX2_plantUses_54 : decode cX2_plantUses 54 = .ok (.getfield 19, 3) := by decide +kernel
theorem dX2_plantUses_57 : decode cX2_plantUses 57 = .ok (.getfield 62, 3) := by decide +kernel
theorem dX2_plantUses_60 : decode cX2_plantUses 60 = .ok (.aload_n 0, 1) := by decide +kernel
theorem dX2_plantUses_61 : decode cX2_plantUses 61 = .ok (.getfield 19, 3) := by decide +kernel
theorem dX2_plantUses_64 : decode cX2_plantUses 64 = .ok (.getfield 120, 3) := by decide +kernel
theorem dX2_plantUses_67 : decode cX2_plantUses 67 = .ok (.aload_n 0, 1) := by decide +kernel
theorem dX2_plantUses_68 : decode cX2_plantUses 68 = .ok (.getfield 19, 3) := by decide +kernel
theorem dX2_plantUses_71 : decode cX2_plantUses 71 = .ok (.getfield 95, 3) := by decide +kernel
theorem dX2_plantUses_74 : decode cX2_plantUses 74 = .ok (.iload_n 1, 1) := by decide +kernel
theorem dX2_plantUses_75 : decode cX2_plantUses 75 = .ok (.iaload, 1) := by decide +kernel
theorem dX2_plantUses_76 : decode cX2_plantUses 76 = .ok (.iaload, 1) := by decide +kernel
theorem dX2_plantUses_77 : decode cX2_plantUses 77 = .ok (.iaload, 1) := by decide +kernel
theorem dX2_plantUses_78 : decode cX2_plantUses 78 = .ok (.istore 4, 2) := by decide +kernel
theorem dX2_plantUses_80 : decode cX2_plantUses 80 = .ok (.aload_n 0, 1) := by decide +kernel
theorem dX2_plantUses_81 : decode cX2_plantUses 81 = .ok (.getfield 9, 3) := by decide +kernel
theorem dX2_plantUses_84 : decode cX2_plantUses 84 = .ok (.iload_n 3, 1) := by decide +kernel
theorem dX2_plantUses_85 : decode cX2_plantUses 85 = .ok (.iconst 3, 1) := by decide +kernel
theorem dX2_plantUses_86 : decode cX2_plantUses 86 = .ok (.aload_n 0, 1) := by decide +kernel
theorem dX2_plantUses_87 : decode cX2_plantUses 87 = .ok (.iload 4, 2) := by decide +kernel
theorem dX2_plantUses_89 : decode cX2_plantUses 89 = .ok (.iload_n 2, 1) := by decide +kernel
theorem dX2_plantUses_90 : decode cX2_plantUses 90 = .ok (.invokevirtual 173, 3) := by decide +kernel
theorem dX2_plantUses_93 : decode cX2_plantUses 93 = .ok (.invokevirtual 167, 3) := by decide +kernel
theorem dX2_plantUses_96 : decode cX2_plantUses 96 = .ok (.iinc 1 1, 3) := by decide +kernel
theorem dX2_plantUses_99 : decode cX2_plantUses 99 = .ok (.goto (-97), 3) := by decide +kernel
theorem dX2_plantUses_102 : decode cX2_plantUses 102 = .ok (.return_, 1) := by decide +kernel
theorem dX2_refuse_0 : decode cX2_refuse 0 = .ok (.aload_n 0, 1) := by decide +kernel
theorem dX2_refuse_1 : decode cX2_refuse 1 = .ok (.getfield 23, 3) := by decide +kernel
theorem dX2_refuse_4 : decode cX2_refuse 4 = .ok (.ifCond .ne 13, 3) := by decide +kernel
theorem dX2_refuse_7 : decode cX2_refuse 7 = .ok (.aload_n 0, 1) := by decide +kernel
theorem dX2_refuse_8 : decode cX2_refuse 8 = .ok (.iload_n 1, 1) := by decide +kernel
theorem dX2_refuse_9 : decode cX2_refuse 9 = .ok (.putfield 23, 3) := by decide +kernel
theorem dX2_refuse_12 : decode cX2_refuse 12 = .ok (.aload_n 0, 1) := by decide +kernel
theorem dX2_refuse_13 : decode cX2_refuse 13 = .ok (.iload_n 2, 1) := by decide +kernel
theorem dX2_refuse_14 : decode cX2_refuse 14 = .ok (.putfield 27, 3) := by decide +kernel
theorem dX2_refuse_17 : decode cX2_refuse 17 = .ok (.return_, 1) := by decide +kernel
theorem dX2_refuseManyParameters_0 : decode cX2_refuseManyParameters 0 = .ok (.iconst 0, 1) := by decide +kernel
theorem dX2_refuseManyParameters_1 : decode cX2_refuseManyParameters 1 = .ok (.istore_n 1, 1) := by decide +kernel
theorem dX2_refuseManyParameters_2 : decode cX2_refuseManyParameters 2 = .ok (.iload_n 1, 1) := by decide +kernel
theorem dX2_refuseManyParameters_3 : decode cX2_refuseManyParameters 3 = .ok (.aload_n 0, 1) := by decide +kernel
theorem dX2_refuseManyParameters_4 : decode cX2_refuseManyParameters 4 = .ok (.getfield 15, 3) := by decide +kernel
theorem dX2_refuseManyParameters_7 : decode cX2_refuseManyParameters 7 = .ok (.getfield 85, 3) := by decide +kernel
theorem dX2_refuseManyParameters_10 : decode cX2_refuseManyParameters 10 = .ok (.if_icmp .ge 76, 3) := by decide +kernel
theorem dX2_refuseManyParameters_13 : decode cX2_refuseManyParameters 13 = .ok (.aload_n 0, 1) := by decide +kernel
theorem dX2_refuseManyParameters_14 : decode cX2_refuseManyParameters 14 = .ok (.getfield 15, 3) := by decide +kernel
theorem dX2_refuseManyParameters_17 : decode cX2_refuseManyParameters 17 = .ok (.getfield 68, 3) := by decide +kernel
theorem dX2_refuseManyParameters_20 : decode cX2_refuseManyParameters 20 = .ok (.iload_n 1, 1) := by decide +kernel
theorem dX2_refuseManyParameters_21 : decode cX2_refuseManyParameters 21 = .ok (.iaload, 1) := by decide +kernel
theorem dX2_refuseManyParameters_22 : decode cX2_refuseManyParameters 22 = .ok (.istore_n 2, 1) := by decide +kernel
theorem dX2_refuseManyParameters_23 : decode cX2_refuseManyParameters 23 = .ok (.aload_n 0, 1) := by decide +kernel
theorem dX2_refuseManyParameters_24 : decode cX2_refuseManyParameters 24 = .ok (.getfield 15, 3) := by decide +kernel
theorem dX2_refuseManyParameters_27 : decode cX2_refuseManyParameters 27 = .ok (.getfield 139, 3) := by decide +kernel
theorem dX2_refuseManyParameters_30 : decode cX2_refuseManyParameters 30 = .ok (.iload_n 1, 1) := by decide +kernel
theorem dX2_refuseManyParameters_31 : decode cX2_refuseManyParameters 31 = .ok (.aload_n 0, 1) := by decide +kernel
theorem dX2_refuseManyParameters_32 : decode cX2_refuseManyParameters 32 = .ok (.getfield 15, 3) := by decide +kernel
theorem dX2_refuseManyParameters_35 : decode cX2_refuseManyParameters 35 = .ok (.getfield 133, 3) := by decide +kernel
theorem dX2_refuseManyParameters_38 : decode cX2_refuseManyParameters 38 = .ok (.iload_n 1, 1) := by decide +kernel
theorem dX2_refuseManyParameters_39 : decode cX2_refuseManyParameters 39 = .ok (.iaload, 1) := by decide +kernel
theorem dX2_refuseManyParameters_40 : decode cX2_refuseManyParameters 40 = .ok (.aload_n 0, 1) := by decide +kernel
theorem dX2_refuseManyParameters_41 : decode cX2_refuseManyParameters 41 = .ok (.getfield 19, 3) := by decide +kernel
theorem dX2_refuseManyParameters_44 : decode cX2_refuseManyParameters 44 = .ok (.getfield 142, 3) := by decide +kernel
theorem dX2_refuseManyParameters_47 : decode cX2_refuseManyParameters 47 = .ok (.iload_n 2, 1) := by decide +kernel
theorem dX2_refuseManyParameters_48 : decode cX2_refuseManyParameters 48 = .ok (.iaload, 1) := by decide +kernel
theorem dX2_refuseManyParameters_49 : decode cX2_refuseManyParameters 49 = .ok (.iadd, 1) := by decide +kernel
theorem dX2_refuseManyParameters_50 : decode cX2_refuseManyParameters 50 = .ok (.iastore, 1) := by decide +kernel
theorem dX2_refuseManyParameters_51 : decode cX2_refuseManyParameters 51 = .ok (.aload_n 0, 1) := by decide +kernel
theorem dX2_refuseManyParameters_52 : decode cX2_refuseManyParameters 52 = .ok (.getfield 15, 3) := by decide +kernel
theorem dX2_refuseManyParameters_55 : decode cX2_refuseManyParameters 55 = .ok (.getfield 139, 3) := by decide +kernel
theorem dX2_refuseManyParameters_58 : decode cX2_refuseManyParameters 58 = .ok (.iload_n 1, 1) := by decide +kernel
theorem dX2_refuseManyParameters_59 : decode cX2_refuseManyParameters 59 = .ok (.iaload, 1) := by decide +kernel
theorem dX2_refuseManyParameters_60 : decode cX2_refuseManyParameters 60 = .ok (.bipush 8, 2) := by decide +kernel
theorem dX2_refuseManyParameters_62 : decode cX2_refuseManyParameters 62 = .ok (.if_icmp .le 18, 3) := by decide +kernel
theorem dX2_refuseManyParameters_65 : decode cX2_refuseManyParameters 65 = .ok (.aload_n 0, 1) := by decide +kernel
theorem dX2_refuseManyParameters_66 : decode cX2_refuseManyParameters 66 = .ok (.bipush 6, 2) := by decide +kernel
theorem dX2_refuseManyParameters_68 : decode cX2_refuseManyParameters 68 = .ok (.aload_n 0, 1) := by decide +kernel
theorem dX2_refuseManyParameters_69 : decode cX2_refuseManyParameters 69 = .ok (.getfield 19, 3) := by decide +kernel
theorem dX2_refuseManyParameters_72 : decode cX2_refuseManyParameters 72 = .ok (.getfield 145, 3) := by decide +kernel
theorem dX2_refuseManyParameters_75 : decode cX2_refuseManyParameters 75 = .ok (.iload_n 2, 1) := by decide +kernel
theorem dX2_refuseManyParameters_76 : decode cX2_refuseManyParameters 76 = .ok (.iaload, 1) := by decide +kernel
theorem dX2_refuseManyParameters_77 : decode cX2_refuseManyParameters 77 = .ok (.invokevirtual 113, 3) := by decide +kernel
theorem dX2_refuseManyParameters_80 : decode cX2_refuseManyParameters 80 = .ok (.iinc 1 1, 3) := by decide +kernel
theorem dX2_refuseManyParameters_83 : decode cX2_refuseManyParameters 83 = .ok (.goto (-81), 3) := by decide +kernel
theorem dX2_refuseManyParameters_86 : decode cX2_refuseManyParameters 86 = .ok (.return_, 1) := by decide +kernel
theorem dX2_resolveUses_0 : decode cX2_resolveUses 0 = .ok (.iconst 0, 1) := by decide +kernel
theorem dX2_resolveUses_1 : decode cX2_resolveUses 1 = .ok (.istore_n 1, 1) := by decide +kernel
theorem dX2_resolveUses_2 : decode cX2_resolveUses 2 = .ok (.iload_n 1, 1) := by decide +kernel
theorem dX2_resolveUses_3 : decode cX2_resolveUses 3 = .ok (.aload_n 0, 1) := by decide +kernel
theorem dX2_resolveUses_4 : decode cX2_resolveUses 4 = .ok (.getfield 19, 3) := by decide +kernel
theorem dX2_resolveUses_7 : decode cX2_resolveUses 7 = .ok (.getfield 92, 3) := by decide +kernel
theorem dX2_resolveUses_10 : decode cX2_resolveUses 10 = .ok (.if_icmp .ge 91, 3) := by decide +kernel
theorem dX2_resolveUses_13 : decode cX2_resolveUses 13 = .ok (.aload_n 0, 1) := by decide +kernel
theorem dX2_resolveUses_14 : decode cX2_resolveUses 14 = .ok (.getfield 19, 3) := by decide +kernel
theorem dX2_resolveUses_17 : decode cX2_resolveUses 17 = .ok (.aload_n 0, 1) := by decide +kernel
theorem dX2_resolveUses_18 : decode cX2_resolveUses 18 = .ok (.getfield 19, 3) := by decide +kernel
theorem dX2_resolveUses_21 : decode cX2_resolveUses 21 = .ok (.getfield 95, 3) := by decide +kernel
theorem dX2_resolveUses_24 : decode cX2_resolveUses 24 = .ok (.iload_n 1, 1) := by decide +kernel
theorem dX2_resolveUses_25 : decode cX2_resolveUses 25 = .ok (.iaload, 1) := by decide +kernel
theorem dX2_resolveUses_26 : decode cX2_resolveUses 26 = .ok (.aload_n 0, 1) := by decide +kernel
theorem dX2_resolveUses_27 : decode cX2_resolveUses 27 = .ok (.getfield 19, 3) := by decide +kernel
theorem dX2_resolveUses_30 : decode cX2_resolveUses 30 = .ok (.getfield 98, 3) := by decide +kernel
theorem dX2_resolveUses_33 : decode cX2_resolveUses 33 = .ok (.iload_n 1, 1) := by decide +kernel
theorem dX2_resolveUses_34 : decode cX2_resolveUses 34 = .ok (.laload, 1) := by decide +kernel
theorem dX2_resolveUses_35 : decode cX2_resolveUses 35 = .ok (.invokevirtual 102, 3) := by decide +kernel
theorem dX2_resolveUses_38 : decode cX2_resolveUses 38 = .ok (.istore_n 2, 1) := by decide +kernel
theorem dX2_resolveUses_39 : decode cX2_resolveUses 39 = .ok (.iload_n 2, 1) := by decide +kernel
theorem dX2_resolveUses_40 : decode cX2_resolveUses 40 = .ok (.iconst (-1), 1) := by decide +kernel
theorem dX2_resolveUses_41 : decode cX2_resolveUses 41 = .ok (.if_icmp .ne 44, 3) := by decide +kernel
theorem dX2_resolveUses_44 : decode cX2_resolveUses 44 = .ok (.aload_n 0, 1) := by decide +kernel
theorem dX2_resolveUses_45 : decode cX2_resolveUses 45 = .ok (.getfield 15, 3) := by decide +kernel
theorem dX2_resolveUses_48 : decode cX2_resolveUses 48 = .ok (.aload_n 0, 1) := by decide +kernel
theorem dX2_resolveUses_49 : decode cX2_resolveUses 49 = .ok (.getfield 19, 3) := by decide +kernel
theorem dX2_resolveUses_52 : decode cX2_resolveUses 52 = .ok (.getfield 98, 3) := by decide +kernel
theorem dX2_resolveUses_55 : decode cX2_resolveUses 55 = .ok (.iload_n 1, 1) := by decide +kernel
theorem dX2_resolveUses_56 : decode cX2_resolveUses 56 = .ok (.laload, 1) := by decide +kernel
theorem dX2_resolveUses_57 : decode cX2_resolveUses 57 = .ok (.invokevirtual 106, 3) := by decide +kernel
theorem dX2_resolveUses_60 : decode cX2_resolveUses 60 = .ok (.istore_n 3, 1) := by decide +kernel
theorem dX2_resolveUses_61 : decode cX2_resolveUses 61 = .ok (.iload_n 3, 1) := by decide +kernel
theorem dX2_resolveUses_62 : decode cX2_resolveUses 62 = .ok (.iconst (-1), 1) := by decide +kernel
theorem dX2_resolveUses_63 : decode cX2_resolveUses 63 = .ok (.if_icmp .ne 17, 3) := by decide +kernel
theorem dX2_resolveUses_66 : decode cX2_resolveUses 66 = .ok (.aload_n 0, 1) := by decide +kernel
theorem dX2_resolveUses_67 : decode cX2_resolveUses 67 = .ok (.iconst 5, 1) := by decide +kernel
theorem dX2_resolveUses_68 : decode cX2_resolveUses 68 = .ok (.aload_n 0, 1) := by decide +kernel
theorem dX2_resolveUses_69 : decode cX2_resolveUses 69 = .ok (.getfield 19, 3) := by decide +kernel
theorem dX2_resolveUses_72 : decode cX2_resolveUses 72 = .ok (.getfield 110, 3) := by decide +kernel
theorem dX2_resolveUses_75 : decode cX2_resolveUses 75 = .ok (.iload_n 1, 1) := by decide +kernel
theorem dX2_resolveUses_76 : decode cX2_resolveUses 76 = .ok (.iaload, 1) := by decide +kernel
theorem dX2_resolveUses_77 : decode cX2_resolveUses 77 = .ok (.invokevirtual 113, 3) := by decide +kernel
theorem dX2_resolveUses_80 : decode cX2_resolveUses 80 = .ok (.bipush (-2), 2) := by decide +kernel
theorem dX2_resolveUses_82 : decode cX2_resolveUses 82 = .ok (.iload_n 3, 1) := by decide +kernel
theorem dX2_resolveUses_83 : decode cX2_resolveUses 83 = .ok (.isub, 1) := by decide +kernel
theorem dX2_resolveUses_84 : decode cX2_resolveUses 84 = .ok (.istore_n 2, 1) := by decide +kernel
theorem dX2_resolveUses_85 : decode cX2_resolveUses 85 = .ok (.aload_n 0, 1) := by decide +kernel
theorem dX2_resolveUses_86 : decode cX2_resolveUses 86 = .ok (.getfield 19, 3) := by decide +kernel
theorem dX2_resolveUses_89 : decode cX2_resolveUses 89 = .ok (.getfield 117, 3) := by decide +kernel
theorem dX2_resolveUses_92 : decode cX2_resolveUses 92 = .ok (.iload_n 1, 1) := by decide +kernel
theorem dX2_resolveUses_93 : decode cX2_resolveUses 93 = .ok (.iload_n 2, 1) := by decide +kernel
theorem dX2_resolveUses_94 : decode cX2_resolveUses 94 = .ok (.iastore, 1) := by decide +kernel
theorem dX2_resolveUses_95 : decode cX2_resolveUses 95 = .ok (.iinc 1 1, 3) := by decide +kernel
theorem dX2_resolveUses_98 : decode cX2_resolveUses 98 = .ok (.goto (-96), 3) := by decide +kernel
theorem dX2_resolveUses_101 : decode cX2_resolveUses 101 = .ok (.return_, 1) := by decide +kernel
theorem cw_X2_addFree : CWV yX2_addFree cX2_addFree 3 none RX2 2 := ⟨mG_1246, mG_1245, mG_38, mG_221, by decide +kernel⟩
theorem cw_X2_findFree : CWV yX2_findFree cX2_findFree 3 none RX2 0 := ⟨mG_1238, mG_1237, mG_36, mG_221, by decide +kernel⟩
theorem cw_X2_findMain : CWV yX2_findMain cX2_findMain 1 none RX2 0 := ⟨mG_1258, mG_1257, mG_41, mG_221, by decide +kernel⟩
theorem cw_X2_freeIndex : CWV yX2_freeIndex cX2_freeIndex 4 (some .int) RX2 2 := ⟨mG_1250, mG_1249, mG_39, mG_221, by decide +kernel⟩
theorem cw_X2_keepMeasures : CWV yX2_keepMeasures cX2_keepMeasures 2 none RX2 0 := ⟨mG_1313, mG_1312, mG_49, mG_221, by decide +kernel⟩
theorem cw_X2_numberFunctions : CWV yX2_numberFunctions cX2_numberFunctions 2 none RX2 0 := ⟨mG_1216, mG_1215, mG_33, mG_221, by decide +kernel⟩
theorem cw_X2_numberIn : CWV yX2_numberIn cX2_numberIn 4 (some .int) RX2 2 := ⟨mG_1275, mG_1274, mG_44, mG_221, by decide +kernel⟩
theorem cw_X2_numberVariables : CWV yX2_numberVariables cX2_numberVariables 3 none RX2 0 := ⟨mG_1263, mG_1262, mG_42, mG_221, by decide +kernel⟩
theorem cw_X2_passThrough : CWV yX2_passThrough cX2_passThrough 6 none RX2 2 := ⟨mG_1242, mG_1241, mG_37, mG_221, by decide +kernel⟩
theorem cw_X2_plantLeaf : CWV yX2_plantLeaf cX2_plantLeaf 4 (some .int) RX2 2 := ⟨mG_1292, mG_1291, mG_48, mG_221, by decide +kernel⟩
theorem cw_X2_plantLifted : CWV yX2_plantLifted cX2_plantLifted 8 none RX2 2 := ⟨mG_1288, mG_1287, mG_47, mG_221, by decide +kernel⟩
theorem cw_X2_plantNode : CWV yX2_plantNode cX2_plantNode 3 none RX2 1 := ⟨mG_1284, mG_1283, mG_46, mG_221, by decide +kernel⟩
theorem cw_X2_plantNodes : CWV yX2_plantNodes cX2_plantNodes 4 none RX2 0 := ⟨mG_1280, mG_1279, mG_45, mG_221, by decide +kernel⟩
theorem cw_X2_plantUses : CWV yX2_plantUses cX2_plantUses 5 none RX2 0 := ⟨mG_1267, mG_1266, mG_43, mG_221, by decide +kernel⟩
theorem cw_X2_refuse : CWV yX2_refuse cX2_refuse 3 none RX2 2 := ⟨mG_1234, mG_1233, mG_35, mG_221, by decide +kernel⟩
theorem cw_X2_refuseManyParameters : CWV yX2_refuseManyParameters cX2_refuseManyParameters 3 none RX2 0 := ⟨mG_1254, mG_1253, mG_40, mG_221, by decide +kernel⟩
theorem cw_X2_resolveUses : CWV yX2_resolveUses cX2_resolveUses 4 none RX2 0 := ⟨mG_1225, mG_1224, mG_34, mG_221, by decide +kernel⟩
theorem cw_X6_find : CWV yX6_find cX6_find 7 (some .int) RX6 2 := ⟨mG_1229, mG_1227, mG_1228, mG_218, by decide +kernel⟩
theorem cw_X6_owns : CWV yX6_owns cX6_owns 2 (some .boolean) RX6 1 := ⟨mG_1220, mG_1218, mG_1219, mG_218, by decide +kernel⟩
theorem cw_X9_change : CWV yX9_change cX9_change 4 none RX9 3 := ⟨mG_1271, mG_1269, mG_1270, mG_217, by decide +kernel⟩
theorem cw_X9_measure : CWV yX9_measure cX9_measure 11 none RX9 2 := ⟨mG_1301, mG_1299, mG_1300, mG_217, by decide +kernel⟩
theorem cw_X9_measureLeaf : CWV yX9_measureLeaf cX9_measureLeaf 3 none RX9 1 := ⟨mG_1297, mG_1295, mG_1296, mG_217, by decide +kernel⟩
section MX2_refuse
variable {p : Program} {l : Launch} {e : Env} {R : Room} {s : State} {m : MethodId} {args : Array Value} {below : List Frame} {meth : Method} {c : Code} {dC : Nat → ClassId} {dI : Nat → Nat → Nat} {ak : Nat → Nat} {A : Nat → Prop} {ad : Nat → Nat} {kc : Nat → ClassId} {sv : Value} {r : Unit} {τ : S5}
set_option maxHeartbeats 4000000 in
set_option maxRecDepth 100000 in
theorem w_X2_refuse {σ : S5} {a1 : Int32} {a2 : Int32} {H : Heap} {locs : List Loc} {ls : Array Slot} (S : CallFix p m c cX2_refuse 3 s args uG RX2) (hr : meth.sig.returnType = none) (hk : meth.locks = false) (hR : 0 ≤ R.frames ∧ 0 ≤ R.locals)
    (X : gX (dC, dI) (tC kc) (wC ad kc sv) (zC ak) A s σ H locs) (hl : lv_has ls 3 [(0, .ref (ad 7)), (1, .int a1), (2, .int a2)]) (hg : f_X2_refuse a1 a2 σ = some (r, τ)) : W p l e R s m args below meth c H locs 0 0 (MQ below (gQv (dC, dI) (tC kc) (wC ad kc sv) A r τ) args s 0 0 A) (F0 m 0 ls []) := by
  have hx := S.1
  have hb := S.2.1
  have hown := S.2.2.2.1
  have hu := S.2.2.2.2
  unfold f_X2_refuse at hg
  refine lv_aload_n hx hb dX2_refuse_0 rfl (lv_at hl 0 rfl) ?_
  refine wcgI_20 (v := (gI σ 20)) S X mG_578 rfl dX2_refuse_1 ?_
  refine lv_if_ne (tgt := 17) hx hb dX2_refuse_4 (by decide) (fun c4 => ?_) (fun c4 => ?_)
  · have hg := (if_neg c4).symm.trans hg
    obtain ⟨-, rfl⟩ := fin_some hg
    exact gr_v S hr hk X dX2_refuse_17
  · have hg := (if_pos c4).symm.trans hg
    refine lv_aload_n hx hb dX2_refuse_7 rfl (lv_at hl 0 rfl) ?_
    refine lv_iload_n hx hb dX2_refuse_8 rfl (lv_at hl 1 rfl) ?_
    refine wcpI_20 S X mG_578 dX2_refuse_9 (fun H locs X => ?_)
    refine lv_aload_n hx hb dX2_refuse_12 rfl (lv_at hl 0 rfl) ?_
    refine lv_iload_n hx hb dX2_refuse_13 rfl (lv_at hl 2 rfl) ?_
    refine wcpI_21 S X mG_580 dX2_refuse_14 (fun H locs X => ?_)
    obtain ⟨-, rfl⟩ := fin_some hg
    exact gr_v S hr hk X dX2_refuse_17
end MX2_refuse
set_option maxRecDepth 100000 in
theorem k2_X2_refuse (l : Launch) (dC : Nat → ClassId) (dI : Nat → Nat → Nat) {ak : Nat → Nat} (ad : Nat → Nat) (kc : Nat → ClassId) (sv : Value) {σ τ : S5} {a1 : Int32} {a2 : Int32} {r : Unit} (hg : f_X2_refuse a1 a2 σ = some (r, τ)) (sz : Nat) : Met l yX2_refuse (Cond.code yX2_refuse cX2_refuse 3 none :: uG) { frames := 0, cells := 0, slots := 0, locals := 0 } (gPc (dC, dI) (tC kc) (wC ad kc sv) (zC ak) [.ref (ad 7), .int a1, .int a2] σ sz) (gQv (dC, dI) (tC kc) (wC ad kc sv) (va_A (wC ad kc sv σ) sz) r τ) 0 0 (va_A (wC ad kc sv σ) sz) :=
  g_start (by decide) (Nat.le_of_ble_eq_true rfl) (fun p e s m below meth c ls S hr hk X hl => w_X2_refuse S hr hk ⟨Nat.le_refl _, Nat.le_refl _⟩ X hl hg)
section MX2_freeIndex
variable {p : Program} {l : Launch} {e : Env} {R : Room} {s : State} {m : MethodId} {args : Array Value} {below : List Frame} {meth : Method} {c : Code} {dC : Nat → ClassId} {dI : Nat → Nat → Nat} {ak : Nat → Nat} {A : Nat → Prop} {ad : Nat → Nat} {kc : Nat → ClassId} {sv : Value} {r : Int32} {τ : S5}
set_option maxHeartbeats 4000000 in
set_option maxRecDepth 100000 in
theorem w_X2_freeIndex_B2 {σ : S5} {rec2 : Int32 → Int32 → Int32 → S5 → Option (Int32 × S5)} {v1 : Int32} {v2 : Int32} {v3 : Int32} {H : Heap} {locs : List Loc} {ls : Array Slot} (S : CallFix p m c cX2_freeIndex 4 s args uG RX2) (hr : meth.sig.returnType = (some .int)) (hk : meth.locks = false) (hR : 0 ≤ R.frames ∧ 0 ≤ R.locals)
    (hrec2 : ∀ (v1 : Int32) (v2 : Int32) (v3 : Int32) (σ : S5) (H : Heap) (locs : List Loc) (ls : Array Slot), gX (dC, dI) (tC kc) (wC ad kc sv) (zC ak) A s σ H locs → lv_has ls 4 [(0, .ref (ad 7)), (1, .int v1), (2, .int v2), (3, .int v3)] → rec2 v1 v2 v3 σ = some (r, τ) → W p l e R s m args below meth c H locs 0 0 (MQ below (gQi (dC, dI) (tC kc) (wC ad kc sv) A r τ) args s 0 0 A) (F0 m 2 ls []))
    (X : gX (dC, dI) (tC kc) (wC ad kc sv) (zC ak) A s σ H locs) (hl : lv_has ls 4 [(0, .ref (ad 7)), (1, .int v1), (2, .int v2), (3, .int v3)]) (hg : f_X2_freeIndex_B2 rec2 v1 v2 v3 σ = some (r, τ)) : W p l e R s m args below meth c H locs 0 0 (MQ below (gQi (dC, dI) (tC kc) (wC ad kc sv) A r τ) args s 0 0 A) (F0 m 2 ls []) := by
  have hx := S.1
  have hb := S.2.1
  have hown := S.2.2.2.1
  have hu := S.2.2.2.2
  unfold f_X2_freeIndex_B2 at hg
  refine lv_iload_n hx hb dX2_freeIndex_2 rfl (lv_at hl 3 rfl) ?_
  refine lv_aload_n hx hb dX2_freeIndex_3 rfl (lv_at hl 0 rfl) ?_
  refine wcgR_7_1 S X mG_576 dX2_freeIndex_4 ?_
  refine wcgR_2_8 S X mG_315 dX2_freeIndex_7 ?_
  refine lv_iload_n hx hb dX2_freeIndex_10 rfl (lv_at hl 1 rfl) ?_
  obtain ⟨hi11, hg⟩ := gd_some hg
  refine wclA_4 (v := (xA σ 4 v1)) S X hi11 rfl dX2_freeIndex_11 ?_
  refine lv_icmp_ge (tgt := 47) hx hb dX2_freeIndex_12 (by decide) (fun c12 => ?_) (fun c12 => ?_)
  · have hg := (if_pos c12).symm.trans hg
    refine lv_iconst (v := (-1)) hx hb dX2_freeIndex_47 (by decide) ?_
    obtain ⟨rfl, rfl⟩ := fin_some hg
    exact gr_i S hr hk X dX2_freeIndex_48
  · have hg := (if_neg c12).symm.trans hg
    refine lv_iload_n hx hb dX2_freeIndex_15 rfl (lv_at hl 3 rfl) ?_
    refine lv_bipush (v := 8) hx hb dX2_freeIndex_16 (by decide) ?_
    refine lv_icmp_ge (tgt := 47) hx hb dX2_freeIndex_18 (by decide) (fun c18 => ?_) (fun c18 => ?_)
    · have hg := (if_pos c18).symm.trans hg
      refine lv_iconst (v := (-1)) hx hb dX2_freeIndex_47 (by decide) ?_
      obtain ⟨rfl, rfl⟩ := fin_some hg
      exact gr_i S hr hk X dX2_freeIndex_48
    · have hg := (if_neg c18).symm.trans hg
      refine lv_aload_n hx hb dX2_freeIndex_21 rfl (lv_at hl 0 rfl) ?_
      refine wcgR_7_1 S X mG_576 dX2_freeIndex_22 ?_
      refine wcgR_2_9 S X mG_317 dX2_freeIndex_25 ?_
      refine lv_iload_n hx hb dX2_freeIndex_28 rfl (lv_at hl 1 rfl) ?_
      refine lv_bipush (v := 8) hx hb dX2_freeIndex_29 (by decide) ?_
      refine lv_imul hx hb dX2_freeIndex_31 ?_
      refine lv_iload_n hx hb dX2_freeIndex_32 rfl (lv_at hl 3 rfl) ?_
      refine lv_iadd hx hb dX2_freeIndex_33 ?_
      obtain ⟨hi34, hg⟩ := gd_some hg
      refine wclA_5 (v := (xA σ 5 ((v1 * 8) + v3))) S X hi34 rfl dX2_freeIndex_34 ?_
      refine lv_iload_n hx hb dX2_freeIndex_35 rfl (lv_at hl 2 rfl) ?_
      refine lv_icmp_ne (tgt := 41) hx hb dX2_freeIndex_36 (by decide) (fun c36 => ?_) (fun c36 => ?_)
      · have hg := (if_neg c36).symm.trans hg
        refine lv_iinc (v := (v3 + 1)) (lv' := [(3, .int (v3 + 1)), (0, .ref (ad 7)), (1, .int v1), (2, .int v2)]) hx hb dX2_freeIndex_41 hl (k := 3) rfl (by rfl) (by decide) rfl (fun ls hl => ?_)
        refine lv_goto (tgt := 2) hx hb dX2_freeIndex_44 (by decide) ?_
        exact hrec2 _ _ _ _ _ _ _ X (lv_sub hl [1, 2, 3, 0] rfl) hg
      · have hg := (if_pos c36).symm.trans hg
        refine lv_iload_n hx hb dX2_freeIndex_39 rfl (lv_at hl 3 rfl) ?_
        obtain ⟨rfl, rfl⟩ := fin_some hg
        exact gr_i S hr hk X dX2_freeIndex_40
set_option maxHeartbeats 4000000 in
set_option maxRecDepth 100000 in
theorem w_X2_freeIndex_L2 (S : CallFix p m c cX2_freeIndex 4 s args uG RX2) (hr : meth.sig.returnType = (some .int)) (hk : meth.locks = false) (hR : 0 ≤ R.frames ∧ 0 ≤ R.locals) : ∀ (n : Nat) (v1 : Int32) (v2 : Int32) (v3 : Int32) (σ : S5) (H : Heap) (locs : List Loc) (ls : Array Slot), gX (dC, dI) (tC kc) (wC ad kc sv) (zC ak) A s σ H locs → lv_has ls 4 [(0, .ref (ad 7)), (1, .int v1), (2, .int v2), (3, .int v3)] → f_X2_freeIndex_L2  n v1 v2 v3 σ = some (r, τ) → W p l e R s m args below meth c H locs 0 0 (MQ below (gQi (dC, dI) (tC kc) (wC ad kc sv) A r τ) args s 0 0 A) (F0 m 2 ls []) := by
  intro n
  induction n with
  | zero => intro v1 v2 v3 σ H locs ls X hl hg; cases hg
  | succ n ih => intro v1 v2 v3 σ H locs ls X hl hg; exact w_X2_freeIndex_B2 S hr hk hR ih X hl hg
set_option maxHeartbeats 4000000 in
set_option maxRecDepth 100000 in
theorem w_X2_freeIndex {σ : S5} {a1 : Int32} {a2 : Int32} {H : Heap} {locs : List Loc} {ls : Array Slot} (S : CallFix p m c cX2_freeIndex 4 s args uG RX2) (hr : meth.sig.returnType = (some .int)) (hk : meth.locks = false) (hR : 0 ≤ R.frames ∧ 0 ≤ R.locals)
    (X : gX (dC, dI) (tC kc) (wC ad kc sv) (zC ak) A s σ H locs) (hl : lv_has ls 4 [(0, .ref (ad 7)), (1, .int a1), (2, .int a2)]) (hg : f_X2_freeIndex a1 a2 σ = some (r, τ)) : W p l e R s m args below meth c H locs 0 0 (MQ below (gQi (dC, dI) (tC kc) (wC ad kc sv) A r τ) args s 0 0 A) (F0 m 0 ls []) := by
  have hx := S.1
  have hb := S.2.1
  have hown := S.2.2.2.1
  have hu := S.2.2.2.2
  unfold f_X2_freeIndex at hg
  refine lv_iconst (v := 0) hx hb dX2_freeIndex_0 (by decide) ?_
  refine lv_istore_n (lv' := [(3, .int 0), (0, .ref (ad 7)), (1, .int a1), (2, .int a2)]) hx hb dX2_freeIndex_1 rfl hl (by decide) rfl (fun ls hl => ?_)
  exact w_X2_freeIndex_L2 S hr hk hR _ _ _ _ _ _ _ _ X (lv_sub hl [1, 2, 3, 0] rfl) hg
end MX2_freeIndex
set_option maxRecDepth 100000 in
theorem k2_X2_freeIndex (l : Launch) (dC : Nat → ClassId) (dI : Nat → Nat → Nat) {ak : Nat → Nat} (ad : Nat → Nat) (kc : Nat → ClassId) (sv : Value) {σ τ : S5} {a1 : Int32} {a2 : Int32} {r : Int32} (hg : f_X2_freeIndex a1 a2 σ = some (r, τ)) (sz : Nat) : Met l yX2_freeIndex (Cond.code yX2_freeIndex cX2_freeIndex 4 (some .int) :: uG) { frames := 0, cells := 0, slots := 0, locals := 0 } (gPc (dC, dI) (tC kc) (wC ad kc sv) (zC ak) [.ref (ad 7), .int a1, .int a2] σ sz) (gQi (dC, dI) (tC kc) (wC ad kc sv) (va_A (wC ad kc sv σ) sz) r τ) 0 0 (va_A (wC ad kc sv σ) sz) :=
  g_start (by decide) (Nat.le_of_ble_eq_true rfl) (fun p e s m below meth c ls S hr hk X hl => w_X2_freeIndex S hr hk ⟨Nat.le_refl _, Nat.le_refl _⟩ X hl hg)
section MX2_addFree
variable {p : Program} {l : Launch} {e : Env} {R : Room} {s : State} {m : MethodId} {args : Array Value} {below : List Frame} {meth : Method} {c : Code} {dC : Nat → ClassId} {dI : Nat → Nat → Nat} {ak : Nat → Nat} {A : Nat → Prop} {ad : Nat → Nat} {kc : Nat → ClassId} {sv : Value} {r : Unit} {τ : S5}
set_option maxHeartbeats 4000000 in
set_option maxRecDepth 100000 in
theorem w_X2_addFree_b48 {σ : S5} {v1 : Int32} {H : Heap} {locs : List Loc} {ls : Array Slot} (S : CallFix p m c cX2_addFree 3 s args uG RX2) (hr : meth.sig.returnType = none) (hk : meth.locks = false) (hR : 1 ≤ R.frames ∧ 23 ≤ R.locals)
    (X : gX (dC, dI) (tC kc) (wC ad kc sv) (zC ak) A s σ H locs) (hl : lv_has ls 3 [(0, .ref (ad 7)), (1, .int v1)]) (hg : f_X2_addFree_b48 v1 σ = some (r, τ)) : W p l e R s m args below meth c H locs 0 0 (MQ below (gQv (dC, dI) (tC kc) (wC ad kc sv) A r τ) args s 0 0 A) (F0 m 48 ls []) := by
  have hx := S.1
  have hb := S.2.1
  have hown := S.2.2.2.1
  have hu := S.2.2.2.2
  unfold f_X2_addFree_b48 at hg
  refine lv_aload_n hx hb dX2_addFree_48 rfl (lv_at hl 0 rfl) ?_
  refine wcgR_7_1 S X mG_576 dX2_addFree_49 ?_
  refine wcgR_2_8 S X mG_315 dX2_addFree_52 ?_
  refine lv_iload_n hx hb dX2_addFree_55 rfl (lv_at hl 1 rfl) ?_
  refine lv_dup2_11 hx hb dX2_addFree_56 rfl rfl ?_
  obtain ⟨hi57, hg⟩ := gd_some hg
  refine wclA_4 (v := (xA σ 4 v1)) S X hi57 rfl dX2_addFree_57 ?_
  refine lv_iconst (v := 1) hx hb dX2_addFree_58 (by decide) ?_
  refine lv_iadd hx hb dX2_addFree_59 ?_
  obtain ⟨hi60, hg⟩ := gd_some hg
  refine wcsA_4 S X hi60 dX2_addFree_60 (fun H locs X => ?_)
  obtain ⟨-, rfl⟩ := fin_some hg
  exact gr_v S hr hk X dX2_addFree_61
set_option maxHeartbeats 4000000 in
set_option maxRecDepth 100000 in
theorem w_X2_addFree {σ : S5} {a1 : Int32} {a2 : Int32} {H : Heap} {locs : List Loc} {ls : Array Slot} (S : CallFix p m c cX2_addFree 3 s args uG RX2) (hr : meth.sig.returnType = none) (hk : meth.locks = false) (hR : 1 ≤ R.frames ∧ 23 ≤ R.locals)
    (X : gX (dC, dI) (tC kc) (wC ad kc sv) (zC ak) A s σ H locs) (hl : lv_has ls 3 [(0, .ref (ad 7)), (1, .int a1), (2, .int a2)]) (hg : f_X2_addFree a1 a2 σ = some (r, τ)) : W p l e R s m args below meth c H locs 0 0 (MQ below (gQv (dC, dI) (tC kc) (wC ad kc sv) A r τ) args s 0 0 A) (F0 m 0 ls []) := by
  have hx := S.1
  have hb := S.2.1
  have hown := S.2.2.2.1
  have hu := S.2.2.2.2
  unfold f_X2_addFree at hg
  refine lv_aload_n hx hb dX2_addFree_0 rfl (lv_at hl 0 rfl) ?_
  refine lv_iload_n hx hb dX2_addFree_1 rfl (lv_at hl 1 rfl) ?_
  refine lv_iload_n hx hb dX2_addFree_2 rfl (lv_at hl 2 rfl) ?_
  obtain ⟨r3, τ3, hq3, hg⟩ := bd_some hg
  refine gc_Vi (As := [.int a1, .int a2]) (rest := []) (q0 := 7) (ci := 5) S X (k2_X2_freeIndex l dC dI ad kc sv hq3 H.size) cw_X2_freeIndex mG_1247 rfl rfl rfl rfl rfl hl.1 (Nat.le_of_ble_eq_true rfl) dX2_addFree_3 ⟨by omega, by omega⟩ (fun H locs X => ?_)
  refine lv_iconst (v := (-1)) hx hb dX2_addFree_6 (by decide) ?_
  refine lv_icmp_eq (tgt := 11) hx hb dX2_addFree_7 (by decide) (fun c7 => ?_) (fun c7 => ?_)
  · have hg := (if_pos c7).symm.trans hg
    refine lv_aload_n hx hb dX2_addFree_11 rfl (lv_at hl 0 rfl) ?_
    refine wcgR_7_1 S X mG_576 dX2_addFree_12 ?_
    refine wcgR_2_8 S X mG_315 dX2_addFree_15 ?_
    refine lv_iload_n hx hb dX2_addFree_18 rfl (lv_at hl 1 rfl) ?_
    obtain ⟨hi19, hg⟩ := gd_some hg
    refine wclA_4 (v := (xA τ3 4 a1)) S X hi19 rfl dX2_addFree_19 ?_
    refine lv_bipush (v := 8) hx hb dX2_addFree_20 (by decide) ?_
    refine lv_icmp_ge (tgt := 48) hx hb dX2_addFree_22 (by decide) (fun c22 => ?_) (fun c22 => ?_)
    · have hg := (if_pos c22).symm.trans hg
      exact w_X2_addFree_b48 S hr hk hR X (lv_sub hl [0, 1] rfl) hg
    · have hg := (if_neg c22).symm.trans hg
      refine lv_aload_n hx hb dX2_addFree_25 rfl (lv_at hl 0 rfl) ?_
      refine wcgR_7_1 S X mG_576 dX2_addFree_26 ?_
      refine wcgR_2_9 S X mG_317 dX2_addFree_29 ?_
      refine lv_iload_n hx hb dX2_addFree_32 rfl (lv_at hl 1 rfl) ?_
      refine lv_bipush (v := 8) hx hb dX2_addFree_33 (by decide) ?_
      refine lv_imul hx hb dX2_addFree_35 ?_
      refine lv_aload_n hx hb dX2_addFree_36 rfl (lv_at hl 0 rfl) ?_
      refine wcgR_7_1 S X mG_576 dX2_addFree_37 ?_
      refine wcgR_2_8 S X mG_315 dX2_addFree_40 ?_
      refine lv_iload_n hx hb dX2_addFree_43 rfl (lv_at hl 1 rfl) ?_
      obtain ⟨hi44, hg⟩ := gd_some hg
      refine wclA_4 (v := (xA τ3 4 a1)) S X hi44 rfl dX2_addFree_44 ?_
      refine lv_iadd hx hb dX2_addFree_45 ?_
      refine lv_iload_n hx hb dX2_addFree_46 rfl (lv_at hl 2 rfl) ?_
      obtain ⟨hi47, hg⟩ := gd_some hg
      refine wcsA_5 S X hi47 dX2_addFree_47 (fun H locs X => ?_)
      exact w_X2_addFree_b48 S hr hk hR X (lv_sub hl [0, 1] rfl) hg
  · have hg := (if_neg c7).symm.trans hg
    obtain ⟨-, rfl⟩ := fin_some hg
    exact gr_v S hr hk X dX2_addFree_10
end MX2_addFree
set_option maxRecDepth 100000 in
theorem k2_X2_addFree (l : Launch) (dC : Nat → ClassId) (dI : Nat → Nat → Nat) {ak : Nat → Nat} (ad : Nat → Nat) (kc : Nat → ClassId) (sv : Value) {σ τ : S5} {a1 : Int32} {a2 : Int32} {r : Unit} (hg : f_X2_addFree a1 a2 σ = some (r, τ)) (sz : Nat) : Met l yX2_addFree (Cond.code yX2_addFree cX2_addFree 3 none :: uG) { frames := 1, cells := 0, slots := 0, locals := 23 } (gPc (dC, dI) (tC kc) (wC ad kc sv) (zC ak) [.ref (ad 7), .int a1, .int a2] σ sz) (gQv (dC, dI) (tC kc) (wC ad kc sv) (va_A (wC ad kc sv σ) sz) r τ) 0 0 (va_A (wC ad kc sv σ) sz) :=
  g_start (by decide) (Nat.le_of_ble_eq_true rfl) (fun p e s m below meth c ls S hr hk X hl => w_X2_addFree S hr hk ⟨Nat.le_refl _, Nat.le_refl _⟩ X hl hg)
section MX2_passThrough
variable {p : Program} {l : Launch} {e : Env} {R : Room} {s : State} {m : MethodId} {args : Array Value} {below : List Frame} {meth : Method} {c : Code} {dC : Nat → ClassId} {dI : Nat → Nat → Nat} {ak : Nat → Nat} {A : Nat → Prop} {ad : Nat → Nat} {kc : Nat → ClassId} {sv : Value} {r : Unit} {τ : S5}
set_option maxHeartbeats 4000000 in
set_option maxRecDepth 100000 in
theorem w_X2_passThrough_B18 {σ : S5} {rec18 : Int32 → Int32 → Int32 → Int32 → S5 → Option (Unit × S5)} {v1 : Int32} {v3 : Int32} {v4 : Int32} {v5 : Int32} {H : Heap} {locs : List Loc} {ls : Array Slot} (S : CallFix p m c cX2_passThrough 6 s args uG RX2) (hr : meth.sig.returnType = none) (hk : meth.locks = false) (hR : 2 ≤ R.frames ∧ 45 ≤ R.locals)
    (hrec18 : ∀ (v1 : Int32) (v3 : Int32) (v4 : Int32) (v5 : Int32) (σ : S5) (H : Heap) (locs : List Loc) (ls : Array Slot), gX (dC, dI) (tC kc) (wC ad kc sv) (zC ak) A s σ H locs → lv_has ls 6 [(0, .ref (ad 7)), (1, .int v1), (3, .int v3), (4, .int v4), (5, .int v5)] → rec18 v1 v3 v4 v5 σ = some (r, τ) → W p l e R s m args below meth c H locs 0 0 (MQ below (gQv (dC, dI) (tC kc) (wC ad kc sv) A r τ) args s 0 0 A) (F0 m 18 ls []))
    (X : gX (dC, dI) (tC kc) (wC ad kc sv) (zC ak) A s σ H locs) (hl : lv_has ls 6 [(0, .ref (ad 7)), (1, .int v1), (3, .int v3), (4, .int v4), (5, .int v5)]) (hg : f_X2_passThrough_B18 rec18 v1 v3 v4 v5 σ = some (r, τ)) : W p l e R s m args below meth c H locs 0 0 (MQ below (gQv (dC, dI) (tC kc) (wC ad kc sv) A r τ) args s 0 0 A) (F0 m 18 ls []) := by
  have hx := S.1
  have hb := S.2.1
  have hown := S.2.2.2.1
  have hu := S.2.2.2.2
  unfold f_X2_passThrough_B18 at hg
  refine lv_iload hx hb dX2_passThrough_18 (lv_at hl 4 rfl) ?_
  refine lv_sipush (v := 700) hx hb dX2_passThrough_20 (by decide) ?_
  refine lv_icmp_ge (tgt := 87) hx hb dX2_passThrough_23 (by decide) (fun c23 => ?_) (fun c23 => ?_)
  · have hg := (if_pos c23).symm.trans hg
    obtain ⟨-, rfl⟩ := fin_some hg
    exact gr_v S hr hk X dX2_passThrough_87
  · have hg := (if_neg c23).symm.trans hg
    refine lv_iload hx hb dX2_passThrough_26 (lv_at hl 3 rfl) ?_
    refine lv_iload_n hx hb dX2_passThrough_28 rfl (lv_at hl 2 rfl) ?_
    refine lv_icmp_eq (tgt := 87) hx hb dX2_passThrough_29 (by decide) (fun c29 => ?_) (fun c29 => ?_)
    · have hg := (if_pos c29).symm.trans hg
      obtain ⟨-, rfl⟩ := fin_some hg
      exact gr_v S hr hk X dX2_passThrough_87
    · have hg := (if_neg c29).symm.trans hg
      refine lv_aload_n hx hb dX2_passThrough_32 rfl (lv_at hl 0 rfl) ?_
      refine wcgR_7_2 S X mG_577 dX2_passThrough_33 ?_
      refine wcgR_4_2 S X mG_446 dX2_passThrough_36 ?_
      refine lv_iload hx hb dX2_passThrough_39 (lv_at hl 3 rfl) ?_
      obtain ⟨hi41, hg⟩ := gd_some hg
      refine wclA_21 (v := (xA σ 21 v4)) S X hi41 rfl dX2_passThrough_41 ?_
      refine lv_iconst (v := (-1)) hx hb dX2_passThrough_42 (by decide) ?_
      refine lv_icmp_eq (tgt := 87) hx hb dX2_passThrough_43 (by decide) (fun c43 => ?_) (fun c43 => ?_)
      · have hg := (if_pos c43).symm.trans hg
        obtain ⟨-, rfl⟩ := fin_some hg
        exact gr_v S hr hk X dX2_passThrough_87
      · have hg := (if_neg c43).symm.trans hg
        refine lv_aload_n hx hb dX2_passThrough_46 rfl (lv_at hl 0 rfl) ?_
        refine lv_aload_n hx hb dX2_passThrough_47 rfl (lv_at hl 0 rfl) ?_
        refine wcgR_7_2 S X mG_577 dX2_passThrough_48 ?_
        refine wcgR_4_7 S X mG_457 dX2_passThrough_51 ?_
        refine lv_iload hx hb dX2_passThrough_54 (lv_at hl 3 rfl) ?_
        obtain ⟨hi56, hg⟩ := gd_some hg
        refine wclA_26 (v := (xA σ 26 v4)) S X hi56 rfl dX2_passThrough_56 ?_
        refine lv_iload_n hx hb dX2_passThrough_57 rfl (lv_at hl 1 rfl) ?_
        obtain ⟨r58, τ58, hq58, hg⟩ := bd_some hg
        refine gc_Vv (As := [.int (xA σ 26 v4), .int v1]) (rest := []) (q0 := 7) (ci := 5) S X (k2_X2_addFree l dC dI ad kc sv hq58 H.size) cw_X2_addFree mG_1243 rfl rfl rfl rfl rfl hl.1 (Nat.le_of_ble_eq_true rfl) dX2_passThrough_58 ⟨by omega, by omega⟩ (fun H locs X => ?_)
        refine lv_aload_n hx hb dX2_passThrough_61 rfl (lv_at hl 0 rfl) ?_
        refine wcgR_7_2 S X mG_577 dX2_passThrough_62 ?_
        refine wcgR_4_3 S X mG_448 dX2_passThrough_65 ?_
        refine lv_aload_n hx hb dX2_passThrough_68 rfl (lv_at hl 0 rfl) ?_
        refine wcgR_7_2 S X mG_577 dX2_passThrough_69 ?_
        refine wcgR_4_2 S X mG_446 dX2_passThrough_72 ?_
        refine lv_iload hx hb dX2_passThrough_75 (lv_at hl 3 rfl) ?_
        obtain ⟨hi77, hg⟩ := gd_some hg
        refine wclA_21 (v := (xA τ58 21 v4)) S X hi77 rfl dX2_passThrough_77 ?_
        obtain ⟨hi78, hg⟩ := gd_some hg
        refine wclA_22 (v := (xA τ58 22 (xA τ58 21 v4))) S X hi78 rfl dX2_passThrough_78 ?_
        refine lv_istore (lv' := [(4, .int (xA τ58 22 (xA τ58 21 v4))), (0, .ref (ad 7)), (1, .int v1), (3, .int v3), (5, .int v5)]) hx hb dX2_passThrough_79 hl (by decide) rfl (fun ls hl => ?_)
        refine lv_iinc (v := (v5 + 1)) (lv' := [(5, .int (v5 + 1)), (4, .int (xA τ58 22 (xA τ58 21 v4))), (0, .ref (ad 7)), (1, .int v1), (3, .int v3)]) hx hb dX2_passThrough_81 hl (k := 4) rfl (by rfl) (by decide) rfl (fun ls hl => ?_)
        refine lv_goto (tgt := 18) hx hb dX2_passThrough_84 (by decide) ?_
        exact hrec18 _ _ _ _ _ _ _ _ X (lv_sub hl [2, 3, 4, 1, 0] rfl) hg
set_option maxHeartbeats 4000000 in
set_option maxRecDepth 100000 in
theorem w_X2_passThrough_L18 (S : CallFix p m c cX2_passThrough 6 s args uG RX2) (hr : meth.sig.returnType = none) (hk : meth.locks = false) (hR : 2 ≤ R.frames ∧ 45 ≤ R.locals) : ∀ (n : Nat) (v1 : Int32) (v3 : Int32) (v4 : Int32) (v5 : Int32) (σ : S5) (H : Heap) (locs : List Loc) (ls : Array Slot), gX (dC, dI) (tC kc) (wC ad kc sv) (zC ak) A s σ H locs → lv_has ls 6 [(0, .ref (ad 7)), (1, .int v1), (3, .int v3), (4, .int v4), (5, .int v5)] → f_X2_passThrough_L18  n v1 v3 v4 v5 σ = some (r, τ) → W p l e R s m args below meth c H locs 0 0 (MQ below (gQv (dC, dI) (tC kc) (wC ad kc sv) A r τ) args s 0 0 A) (F0 m 18 ls []) := by
  intro n
  induction n with
  | zero => intro v1 v3 v4 v5 σ H locs ls X hl hg; cases hg
  | succ n ih => intro v1 v3 v4 v5 σ H locs ls X hl hg; exact w_X2_passThrough_B18 S hr hk hR ih X hl hg
set_option maxHeartbeats 4000000 in
set_option maxRecDepth 100000 in
theorem w_X2_passThrough {σ : S5} {a1 : Int32} {a2 : Int32} {H : Heap} {locs : List Loc} {ls : Array Slot} (S : CallFix p m c cX2_passThrough 6 s args uG RX2) (hr : meth.sig.returnType = none) (hk : meth.locks = false) (hR : 2 ≤ R.frames ∧ 45 ≤ R.locals)
    (X : gX (dC, dI) (tC kc) (wC ad kc sv) (zC ak) A s σ H locs) (hl : lv_has ls 6 [(0, .ref (ad 7)), (1, .int a1), (2, .int a2)]) (hg : f_X2_passThrough a1 a2 σ = some (r, τ)) : W p l e R s m args below meth c H locs 0 0 (MQ below (gQv (dC, dI) (tC kc) (wC ad kc sv) A r τ) args s 0 0 A) (F0 m 0 ls []) := by
  have hx := S.1
  have hb := S.2.1
  have hown := S.2.2.2.1
  have hu := S.2.2.2.2
  unfold f_X2_passThrough at hg
  refine lv_aload_n hx hb dX2_passThrough_0 rfl (lv_at hl 0 rfl) ?_
  refine wcgR_7_2 S X mG_577 dX2_passThrough_1 ?_
  refine wcgR_4_3 S X mG_448 dX2_passThrough_4 ?_
  refine lv_iload_n hx hb dX2_passThrough_7 rfl (lv_at hl 1 rfl) ?_
  refine lv_iconst (v := 5) hx hb dX2_passThrough_8 (by decide) ?_
  refine lv_idiv hx hb dX2_passThrough_9 (by decide) ?_
  obtain ⟨hi10, hg⟩ := gd_some hg
  refine wclA_22 (v := (xA σ 22 (a1 / 5))) S X hi10 rfl dX2_passThrough_10 ?_
  refine lv_istore_n (lv' := [(3, .int (xA σ 22 (a1 / 5))), (0, .ref (ad 7)), (1, .int a1), (2, .int a2)]) hx hb dX2_passThrough_11 rfl hl (by decide) rfl (fun ls hl => ?_)
  refine lv_iload_n hx hb dX2_passThrough_12 rfl (lv_at hl 3 rfl) ?_
  refine lv_istore (lv' := [(4, .int a2), (3, .int (xA σ 22 (a1 / 5))), (0, .ref (ad 7)), (1, .int a1), (2, .int a2)]) hx hb dX2_passThrough_13 hl (by decide) rfl (fun ls hl => ?_)
  refine lv_iconst (v := 0) hx hb dX2_passThrough_15 (by decide) ?_
  refine lv_istore (lv' := [(5, .int 0), (4, .int a2), (3, .int (xA σ 22 (a1 / 5))), (0, .ref (ad 7)), (1, .int a1), (2, .int a2)]) hx hb dX2_passThrough_16 hl (by decide) rfl (fun ls hl => ?_)
  exact w_X2_passThrough_L18 S hr hk hR _ _ _ _ _ _ _ _ _ X (lv_sub hl [3, 4, 2, 1, 0] rfl) hg
end MX2_passThrough
set_option maxRecDepth 100000 in
theorem k2_X2_passThrough (l : Launch) (dC : Nat → ClassId) (dI : Nat → Nat → Nat) {ak : Nat → Nat} (ad : Nat → Nat) (kc : Nat → ClassId) (sv : Value) {σ τ : S5} {a1 : Int32} {a2 : Int32} {r : Unit} (hg : f_X2_passThrough a1 a2 σ = some (r, τ)) (sz : Nat) : Met l yX2_passThrough (Cond.code yX2_passThrough cX2_passThrough 6 none :: uG) { frames := 2, cells := 0, slots := 0, locals := 45 } (gPc (dC, dI) (tC kc) (wC ad kc sv) (zC ak) [.ref (ad 7), .int a1, .int a2] σ sz) (gQv (dC, dI) (tC kc) (wC ad kc sv) (va_A (wC ad kc sv σ) sz) r τ) 0 0 (va_A (wC ad kc sv σ) sz) :=
  g_start (by decide) (Nat.le_of_ble_eq_true rfl) (fun p e s m below meth c ls S hr hk X hl => w_X2_passThrough S hr hk ⟨Nat.le_refl _, Nat.le_refl _⟩ X hl hg)
section MX2_findFree
variable {p : Program} {l : Launch} {e : Env} {R : Room} {s : State} {m : MethodId} {args : Array Value} {below : List Frame} {meth : Method} {c : Code} {dC : Nat → ClassId} {dI : Nat → Nat → Nat} {ak : Nat → Nat} {A : Nat → Prop} {ad : Nat → Nat} {kc : Nat → ClassId} {sv : Value} {r : Unit} {τ : S5}
set_option maxHeartbeats 4000000 in
set_option maxRecDepth 100000 in
theorem w_X2_findFree_b49 {σ : S5} {rec2 : Int32 → S5 → Option (Unit × S5)} {v1 : Int32} {H : Heap} {locs : List Loc} {ls : Array Slot} (S : CallFix p m c cX2_findFree 3 s args uG RX2) (hr : meth.sig.returnType = none) (hk : meth.locks = false) (hR : 3 ≤ R.frames ∧ 70 ≤ R.locals)
    (hrec2 : ∀ (v1 : Int32) (σ : S5) (H : Heap) (locs : List Loc) (ls : Array Slot), gX (dC, dI) (tC kc) (wC ad kc sv) (zC ak) A s σ H locs → lv_has ls 3 [(0, .ref (ad 7)), (1, .int v1)] → rec2 v1 σ = some (r, τ) → W p l e R s m args below meth c H locs 0 0 (MQ below (gQv (dC, dI) (tC kc) (wC ad kc sv) A r τ) args s 0 0 A) (F0 m 2 ls []))
    (X : gX (dC, dI) (tC kc) (wC ad kc sv) (zC ak) A s σ H locs) (hl : lv_has ls 3 [(0, .ref (ad 7)), (1, .int v1)]) (hg : f_X2_findFree_b49 rec2 v1 σ = some (r, τ)) : W p l e R s m args below meth c H locs 0 0 (MQ below (gQv (dC, dI) (tC kc) (wC ad kc sv) A r τ) args s 0 0 A) (F0 m 49 ls []) := by
  have hx := S.1
  have hb := S.2.1
  have hown := S.2.2.2.1
  have hu := S.2.2.2.2
  unfold f_X2_findFree_b49 at hg
  refine lv_iinc (v := (v1 + 1)) (lv' := [(1, .int (v1 + 1)), (0, .ref (ad 7))]) hx hb dX2_findFree_49 hl (k := 1) rfl (by rfl) (by decide) rfl (fun ls hl => ?_)
  refine lv_goto (tgt := 2) hx hb dX2_findFree_52 (by decide) ?_
  exact hrec2 _ _ _ _ _ X (lv_sub hl [1, 0] rfl) hg
set_option maxHeartbeats 4000000 in
set_option maxRecDepth 100000 in
theorem w_X2_findFree_B2 {σ : S5} {rec2 : Int32 → S5 → Option (Unit × S5)} {v1 : Int32} {H : Heap} {locs : List Loc} {ls : Array Slot} (S : CallFix p m c cX2_findFree 3 s args uG RX2) (hr : meth.sig.returnType = none) (hk : meth.locks = false) (hR : 3 ≤ R.frames ∧ 70 ≤ R.locals)
    (hrec2 : ∀ (v1 : Int32) (σ : S5) (H : Heap) (locs : List Loc) (ls : Array Slot), gX (dC, dI) (tC kc) (wC ad kc sv) (zC ak) A s σ H locs → lv_has ls 3 [(0, .ref (ad 7)), (1, .int v1)] → rec2 v1 σ = some (r, τ) → W p l e R s m args below meth c H locs 0 0 (MQ below (gQv (dC, dI) (tC kc) (wC ad kc sv) A r τ) args s 0 0 A) (F0 m 2 ls []))
    (X : gX (dC, dI) (tC kc) (wC ad kc sv) (zC ak) A s σ H locs) (hl : lv_has ls 3 [(0, .ref (ad 7)), (1, .int v1)]) (hg : f_X2_findFree_B2 rec2 v1 σ = some (r, τ)) : W p l e R s m args below meth c H locs 0 0 (MQ below (gQv (dC, dI) (tC kc) (wC ad kc sv) A r τ) args s 0 0 A) (F0 m 2 ls []) := by
  have hx := S.1
  have hb := S.2.1
  have hown := S.2.2.2.1
  have hu := S.2.2.2.2
  unfold f_X2_findFree_B2 at hg
  refine lv_iload_n hx hb dX2_findFree_2 rfl (lv_at hl 1 rfl) ?_
  refine lv_aload_n hx hb dX2_findFree_3 rfl (lv_at hl 0 rfl) ?_
  refine wcgR_7_2 S X mG_577 dX2_findFree_4 ?_
  refine wcgI_10 (v := (gI σ 10)) S X mG_471 rfl dX2_findFree_7 ?_
  refine lv_icmp_ge (tgt := 55) hx hb dX2_findFree_10 (by decide) (fun c10 => ?_) (fun c10 => ?_)
  · have hg := (if_pos c10).symm.trans hg
    obtain ⟨-, rfl⟩ := fin_some hg
    exact gr_v S hr hk X dX2_findFree_55
  · have hg := (if_neg c10).symm.trans hg
    refine lv_aload_n hx hb dX2_findFree_13 rfl (lv_at hl 0 rfl) ?_
    refine wcgR_7_2 S X mG_577 dX2_findFree_14 ?_
    refine wcgR_4_13 S X mG_469 dX2_findFree_17 ?_
    refine lv_iload_n hx hb dX2_findFree_20 rfl (lv_at hl 1 rfl) ?_
    obtain ⟨hi21, hg⟩ := gd_some hg
    refine wclA_30 (v := (xA σ 30 v1)) S X hi21 rfl dX2_findFree_21 ?_
    refine lv_istore_n (lv' := [(2, .int (xA σ 30 v1)), (0, .ref (ad 7)), (1, .int v1)]) hx hb dX2_findFree_22 rfl hl (by decide) rfl (fun ls hl => ?_)
    refine lv_iload_n hx hb dX2_findFree_23 rfl (lv_at hl 0 rfl) ?_
    refine lv_if_lt (tgt := 49) hx hb dX2_findFree_24 (by decide) (fun c24 => ?_) (fun c24 => ?_)
    · have hg := (if_pos c24).symm.trans hg
      exact w_X2_findFree_b49 S hr hk hR hrec2 X (lv_sub hl [1, 2] rfl) hg
    · have hg := (if_neg c24).symm.trans hg
      refine lv_aload_n hx hb dX2_findFree_27 rfl (lv_at hl 1 rfl) ?_
      refine lv_iload_n hx hb dX2_findFree_28 rfl (lv_at hl 0 rfl) ?_
      refine lv_aload_n hx hb dX2_findFree_29 rfl (lv_at hl 1 rfl) ?_
      refine wcgR_7_2 S X mG_577 dX2_findFree_30 ?_
      refine wcgR_4_3 S X mG_448 dX2_findFree_33 ?_
      refine lv_aload_n hx hb dX2_findFree_36 rfl (lv_at hl 1 rfl) ?_
      refine wcgR_7_2 S X mG_577 dX2_findFree_37 ?_
      refine wcgR_4_10 S X mG_463 dX2_findFree_40 ?_
      refine lv_iload_n hx hb dX2_findFree_43 rfl (lv_at hl 2 rfl) ?_
      obtain ⟨hi44, hg⟩ := gd_some hg
      refine wclA_27 (v := (xA σ 27 v1)) S X hi44 rfl dX2_findFree_44 ?_
      obtain ⟨hi45, hg⟩ := gd_some hg
      refine wclA_22 (v := (xA σ 22 (xA σ 27 v1))) S X hi45 rfl dX2_findFree_45 ?_
      obtain ⟨r46, τ46, hq46, hg⟩ := bd_some hg
      refine gc_Vv (As := [.int (xA σ 30 v1), .int (xA σ 22 (xA σ 27 v1))]) (rest := []) (q0 := 7) (ci := 5) S X (k2_X2_passThrough l dC dI ad kc sv hq46 H.size) cw_X2_passThrough mG_1239 rfl rfl rfl rfl rfl hl.1 (Nat.le_of_ble_eq_true rfl) dX2_findFree_46 ⟨by omega, by omega⟩ (fun H locs X => ?_)
      exact w_X2_findFree_b49 S hr hk hR hrec2 X (lv_sub hl [1, 2] rfl) hg
set_option maxHeartbeats 4000000 in
set_option maxRecDepth 100000 in
theorem w_X2_findFree_L2 (S : CallFix p m c cX2_findFree 3 s args uG RX2) (hr : meth.sig.returnType = none) (hk : meth.locks = false) (hR : 3 ≤ R.frames ∧ 70 ≤ R.locals) : ∀ (n : Nat) (v1 : Int32) (σ : S5) (H : Heap) (locs : List Loc) (ls : Array Slot), gX (dC, dI) (tC kc) (wC ad kc sv) (zC ak) A s σ H locs → lv_has ls 3 [(0, .ref (ad 7)), (1, .int v1)] → f_X2_findFree_L2  n v1 σ = some (r, τ) → W p l e R s m args below meth c H locs 0 0 (MQ below (gQv (dC, dI) (tC kc) (wC ad kc sv) A r τ) args s 0 0 A) (F0 m 2 ls []) := by
  intro n
  induction n with
  | zero => intro v1 σ H locs ls X hl hg; cases hg
  | succ n ih => intro v1 σ H locs ls X hl hg; exact w_X2_findFree_B2 S hr hk hR ih X hl hg
set_option maxHeartbeats 4000000 in
set_option maxRecDepth 100000 in
theorem w_X2_findFree {σ : S5}  {H : Heap} {locs : List Loc} {ls : Array Slot} (S : CallFix p m c cX2_findFree 3 s args uG RX2) (hr : meth.sig.returnType = none) (hk : meth.locks = false) (hR : 3 ≤ R.frames ∧ 70 ≤ R.locals)
    (X : gX (dC, dI) (tC kc) (wC ad kc sv) (zC ak) A s σ H locs) (hl : lv_has ls 3 [(0, .ref (ad 7))]) (hg : f_X2_findFree  σ = some (r, τ)) : W p l e R s m args below meth c H locs 0 0 (MQ below (gQv (dC, dI) (tC kc) (wC ad kc sv) A r τ) args s 0 0 A) (F0 m 0 ls []) := by
  have hx := S.1
  have hb := S.2.1
  have hown := S.2.2.2.1
  have hu := S.2.2.2.2
  unfold f_X2_findFree at hg
  refine lv_iconst (v := 0) hx hb dX2_findFree_0 (by decide) ?_
  refine lv_istore_n (lv' := [(1, .int 0), (0, .ref (ad 7))]) hx hb dX2_findFree_1 rfl hl (by decide) rfl (fun ls hl => ?_)
  exact w_X2_findFree_L2 S hr hk hR _ _ _ _ _ _ X (lv_sub hl [1, 0] rfl) hg
end MX2_findFree
set_option maxRecDepth 100000 in
theorem k2_X2_findFree (l : Launch) (dC : Nat → ClassId) (dI : Nat → Nat → Nat) {ak : Nat → Nat} (ad : Nat → Nat) (kc : Nat → ClassId) (sv : Value) {σ τ : S5}  {r : Unit} (hg : f_X2_findFree  σ = some (r, τ)) (sz : Nat) : Met l yX2_findFree (Cond.code yX2_findFree cX2_findFree 3 none :: uG) { frames := 3, cells := 0, slots := 0, locals := 70 } (gPc (dC, dI) (tC kc) (wC ad kc sv) (zC ak) [.ref (ad 7)] σ sz) (gQv (dC, dI) (tC kc) (wC ad kc sv) (va_A (wC ad kc sv σ) sz) r τ) 0 0 (va_A (wC ad kc sv σ) sz) :=
  g_start (by decide) (Nat.le_of_ble_eq_true rfl) (fun p e s m below meth c ls S hr hk X hl => w_X2_findFree S hr hk ⟨Nat.le_refl _, Nat.le_refl _⟩ X hl hg)
section MX2_numberFunctions
variable {p : Program} {l : Launch} {e : Env} {R : Room} {s : State} {m : MethodId} {args : Array Value} {below : List Frame} {meth : Method} {c : Code} {dC : Nat → ClassId} {dI : Nat → Nat → Nat} {ak : Nat → Nat} {A : Nat → Prop} {ad : Nat → Nat} {kc : Nat → ClassId} {sv : Value} {r : Unit} {τ : S5}
set_option maxHeartbeats 4000000 in
set_option maxRecDepth 100000 in
theorem w_X2_numberFunctions_B99 {σ : S5} {rec99 : Int32 → S5 → Option (Unit × S5)} {v1 : Int32} {H : Heap} {locs : List Loc} {ls : Array Slot} (S : CallFix p m c cX2_numberFunctions 2 s args uG RX2) (hr : meth.sig.returnType = none) (hk : meth.locks = false) (hR : 1 ≤ R.frames ∧ 21 ≤ R.locals)
    (hrec99 : ∀ (v1 : Int32) (σ : S5) (H : Heap) (locs : List Loc) (ls : Array Slot), gX (dC, dI) (tC kc) (wC ad kc sv) (zC ak) A s σ H locs → lv_has ls 2 [(0, .ref (ad 7)), (1, .int v1)] → rec99 v1 σ = some (r, τ) → W p l e R s m args below meth c H locs 0 0 (MQ below (gQv (dC, dI) (tC kc) (wC ad kc sv) A r τ) args s 0 0 A) (F0 m 99 ls []))
    (X : gX (dC, dI) (tC kc) (wC ad kc sv) (zC ak) A s σ H locs) (hl : lv_has ls 2 [(0, .ref (ad 7)), (1, .int v1)]) (hg : f_X2_numberFunctions_B99 rec99 v1 σ = some (r, τ)) : W p l e R s m args below meth c H locs 0 0 (MQ below (gQv (dC, dI) (tC kc) (wC ad kc sv) A r τ) args s 0 0 A) (F0 m 99 ls []) := by
  have hx := S.1
  have hb := S.2.1
  have hown := S.2.2.2.1
  have hu := S.2.2.2.2
  unfold f_X2_numberFunctions_B99 at hg
  refine lv_iload_n hx hb dX2_numberFunctions_99 rfl (lv_at hl 1 rfl) ?_
  refine lv_aload_n hx hb dX2_numberFunctions_100 rfl (lv_at hl 0 rfl) ?_
  refine wcgR_7_1 S X mG_576 dX2_numberFunctions_101 ?_
  refine wcgI_6 (v := (gI σ 6)) S X mG_302 rfl dX2_numberFunctions_104 ?_
  refine lv_icmp_ge (tgt := 142) hx hb dX2_numberFunctions_107 (by decide) (fun c107 => ?_) (fun c107 => ?_)
  · have hg := (if_pos c107).symm.trans hg
    obtain ⟨-, rfl⟩ := fin_some hg
    exact gr_v S hr hk X dX2_numberFunctions_142
  · have hg := (if_neg c107).symm.trans hg
    refine lv_aload_n hx hb dX2_numberFunctions_110 rfl (lv_at hl 0 rfl) ?_
    refine wcgR_7_1 S X mG_576 dX2_numberFunctions_111 ?_
    refine wcgR_2_11 S X mG_325 dX2_numberFunctions_114 ?_
    refine lv_iload_n hx hb dX2_numberFunctions_117 rfl (lv_at hl 1 rfl) ?_
    refine lv_aload_n hx hb dX2_numberFunctions_118 rfl (lv_at hl 0 rfl) ?_
    refine wcgR_7_2 S X mG_577 dX2_numberFunctions_119 ?_
    refine wcgR_4_4 S X mG_450 dX2_numberFunctions_122 ?_
    refine lv_aload_n hx hb dX2_numberFunctions_125 rfl (lv_at hl 0 rfl) ?_
    refine wcgR_7_1 S X mG_576 dX2_numberFunctions_126 ?_
    refine wcgR_2_12 S X mG_328 dX2_numberFunctions_129 ?_
    refine lv_iload_n hx hb dX2_numberFunctions_132 rfl (lv_at hl 1 rfl) ?_
    obtain ⟨hi133, hg⟩ := gd_some hg
    refine wclA_8 (v := (xA σ 8 v1)) S X hi133 rfl dX2_numberFunctions_133 ?_
    obtain ⟨hi134, hg⟩ := gd_some hg
    refine wclA_23 (v := (xA σ 23 (xA σ 8 v1))) S X hi134 rfl dX2_numberFunctions_134 ?_
    obtain ⟨hi135, hg⟩ := gd_some hg
    refine wcsA_7 S X hi135 dX2_numberFunctions_135 (fun H locs X => ?_)
    refine lv_iinc (v := (v1 + 1)) (lv' := [(1, .int (v1 + 1)), (0, .ref (ad 7))]) hx hb dX2_numberFunctions_136 hl (k := 1) rfl (by rfl) (by decide) rfl (fun ls hl => ?_)
    refine lv_goto (tgt := 99) hx hb dX2_numberFunctions_139 (by decide) ?_
    exact hrec99 _ _ _ _ _ X (lv_sub hl [1, 0] rfl) hg
set_option maxHeartbeats 4000000 in
set_option maxRecDepth 100000 in
theorem w_X2_numberFunctions_L99 (S : CallFix p m c cX2_numberFunctions 2 s args uG RX2) (hr : meth.sig.returnType = none) (hk : meth.locks = false) (hR : 1 ≤ R.frames ∧ 21 ≤ R.locals) : ∀ (n : Nat) (v1 : Int32) (σ : S5) (H : Heap) (locs : List Loc) (ls : Array Slot), gX (dC, dI) (tC kc) (wC ad kc sv) (zC ak) A s σ H locs → lv_has ls 2 [(0, .ref (ad 7)), (1, .int v1)] → f_X2_numberFunctions_L99  n v1 σ = some (r, τ) → W p l e R s m args below meth c H locs 0 0 (MQ below (gQv (dC, dI) (tC kc) (wC ad kc sv) A r τ) args s 0 0 A) (F0 m 99 ls []) := by
  intro n
  induction n with
  | zero => intro v1 σ H locs ls X hl hg; cases hg
  | succ n ih => intro v1 σ H locs ls X hl hg; exact w_X2_numberFunctions_B99 S hr hk hR ih X hl hg
set_option maxHeartbeats 4000000 in
set_option maxRecDepth 100000 in
theorem w_X2_numberFunctions_b91 {σ : S5} {rec39 : Int32 → S5 → Option (Unit × S5)} {v1 : Int32} {H : Heap} {locs : List Loc} {ls : Array Slot} (S : CallFix p m c cX2_numberFunctions 2 s args uG RX2) (hr : meth.sig.returnType = none) (hk : meth.locks = false) (hR : 1 ≤ R.frames ∧ 21 ≤ R.locals)
    (hrec39 : ∀ (v1 : Int32) (σ : S5) (H : Heap) (locs : List Loc) (ls : Array Slot), gX (dC, dI) (tC kc) (wC ad kc sv) (zC ak) A s σ H locs → lv_has ls 2 [(0, .ref (ad 7)), (1, .int v1)] → rec39 v1 σ = some (r, τ) → W p l e R s m args below meth c H locs 0 0 (MQ below (gQv (dC, dI) (tC kc) (wC ad kc sv) A r τ) args s 0 0 A) (F0 m 39 ls []))
    (X : gX (dC, dI) (tC kc) (wC ad kc sv) (zC ak) A s σ H locs) (hl : lv_has ls 2 [(0, .ref (ad 7)), (1, .int v1)]) (hg : f_X2_numberFunctions_b91 rec39 v1 σ = some (r, τ)) : W p l e R s m args below meth c H locs 0 0 (MQ below (gQv (dC, dI) (tC kc) (wC ad kc sv) A r τ) args s 0 0 A) (F0 m 91 ls []) := by
  have hx := S.1
  have hb := S.2.1
  have hown := S.2.2.2.1
  have hu := S.2.2.2.2
  unfold f_X2_numberFunctions_b91 at hg
  refine lv_iinc (v := (v1 + 1)) (lv' := [(1, .int (v1 + 1)), (0, .ref (ad 7))]) hx hb dX2_numberFunctions_91 hl (k := 1) rfl (by rfl) (by decide) rfl (fun ls hl => ?_)
  refine lv_goto (tgt := 39) hx hb dX2_numberFunctions_94 (by decide) ?_
  exact hrec39 _ _ _ _ _ X (lv_sub hl [1, 0] rfl) hg
set_option maxHeartbeats 4000000 in
set_option maxRecDepth 100000 in
theorem w_X2_numberFunctions_B39 {σ : S5} {rec39 : Int32 → S5 → Option (Unit × S5)} {v1 : Int32} {H : Heap} {locs : List Loc} {ls : Array Slot} (S : CallFix p m c cX2_numberFunctions 2 s args uG RX2) (hr : meth.sig.returnType = none) (hk : meth.locks = false) (hR : 1 ≤ R.frames ∧ 21 ≤ R.locals)
    (hrec39 : ∀ (v1 : Int32) (σ : S5) (H : Heap) (locs : List Loc) (ls : Array Slot), gX (dC, dI) (tC kc) (wC ad kc sv) (zC ak) A s σ H locs → lv_has ls 2 [(0, .ref (ad 7)), (1, .int v1)] → rec39 v1 σ = some (r, τ) → W p l e R s m args below meth c H locs 0 0 (MQ below (gQv (dC, dI) (tC kc) (wC ad kc sv) A r τ) args s 0 0 A) (F0 m 39 ls []))
    (X : gX (dC, dI) (tC kc) (wC ad kc sv) (zC ak) A s σ H locs) (hl : lv_has ls 2 [(0, .ref (ad 7)), (1, .int v1)]) (hg : f_X2_numberFunctions_B39 rec39 v1 σ = some (r, τ)) : W p l e R s m args below meth c H locs 0 0 (MQ below (gQv (dC, dI) (tC kc) (wC ad kc sv) A r τ) args s 0 0 A) (F0 m 39 ls []) := by
  have hx := S.1
  have hb := S.2.1
  have hown := S.2.2.2.1
  have hu := S.2.2.2.2
  unfold f_X2_numberFunctions_B39 at hg
  refine lv_iload_n hx hb dX2_numberFunctions_39 rfl (lv_at hl 1 rfl) ?_
  refine lv_aload_n hx hb dX2_numberFunctions_40 rfl (lv_at hl 0 rfl) ?_
  refine wcgR_7_2 S X mG_577 dX2_numberFunctions_41 ?_
  refine wcgI_9 (v := (gI σ 9)) S X mG_459 rfl dX2_numberFunctions_44 ?_
  refine lv_icmp_ge (tgt := 97) hx hb dX2_numberFunctions_47 (by decide) (fun c47 => ?_) (fun c47 => ?_)
  · have hg := (if_pos c47).symm.trans hg
    refine lv_iconst (v := 0) hx hb dX2_numberFunctions_97 (by decide) ?_
    refine lv_istore_n (lv' := [(1, .int 0), (0, .ref (ad 7))]) hx hb dX2_numberFunctions_98 rfl hl (by decide) rfl (fun ls hl => ?_)
    exact w_X2_numberFunctions_L99 S hr hk hR _ _ _ _ _ _ X (lv_sub hl [1, 0] rfl) hg
  · have hg := (if_neg c47).symm.trans hg
    refine lv_aload_n hx hb dX2_numberFunctions_50 rfl (lv_at hl 0 rfl) ?_
    refine wcgR_7_2 S X mG_577 dX2_numberFunctions_51 ?_
    refine lv_iload_n hx hb dX2_numberFunctions_54 rfl (lv_at hl 1 rfl) ?_
    obtain ⟨r55, τ55, hq55, hg⟩ := bd_some hg
    refine gc_Vi (As := [.int v1]) (rest := []) (q0 := 4) (ci := 9) S X (k2_X6_owns l dC dI ad kc sv hq55 H.size) cw_X6_owns mG_1217 rfl rfl rfl rfl rfl hl.1 (Nat.le_of_ble_eq_true rfl) dX2_numberFunctions_55 ⟨by omega, by omega⟩ (fun H locs X => ?_)
    refine lv_if_eq (tgt := 91) hx hb dX2_numberFunctions_58 (by decide) (fun c58 => ?_) (fun c58 => ?_)
    · have hg := (if_pos c58).symm.trans hg
      exact w_X2_numberFunctions_b91 S hr hk hR hrec39 X (lv_sub hl [0, 1] rfl) hg
    · have hg := (if_neg c58).symm.trans hg
      refine lv_aload_n hx hb dX2_numberFunctions_61 rfl (lv_at hl 0 rfl) ?_
      refine wcgR_7_2 S X mG_577 dX2_numberFunctions_62 ?_
      refine wcgR_4_2 S X mG_446 dX2_numberFunctions_65 ?_
      refine lv_iload_n hx hb dX2_numberFunctions_68 rfl (lv_at hl 1 rfl) ?_
      obtain ⟨hi69, hg⟩ := gd_some hg
      refine wclA_21 (v := (xA τ55 21 v1)) S X hi69 rfl dX2_numberFunctions_69 ?_
      refine lv_iconst (v := (-1)) hx hb dX2_numberFunctions_70 (by decide) ?_
      refine lv_icmp_eq (tgt := 91) hx hb dX2_numberFunctions_71 (by decide) (fun c71 => ?_) (fun c71 => ?_)
      · have hg := (if_pos c71).symm.trans hg
        exact w_X2_numberFunctions_b91 S hr hk hR hrec39 X (lv_sub hl [0, 1] rfl) hg
      · have hg := (if_neg c71).symm.trans hg
        refine lv_aload_n hx hb dX2_numberFunctions_74 rfl (lv_at hl 0 rfl) ?_
        refine wcgR_7_2 S X mG_577 dX2_numberFunctions_75 ?_
        refine wcgR_4_7 S X mG_457 dX2_numberFunctions_78 ?_
        refine lv_iload_n hx hb dX2_numberFunctions_81 rfl (lv_at hl 1 rfl) ?_
        refine lv_aload_n hx hb dX2_numberFunctions_82 rfl (lv_at hl 0 rfl) ?_
        refine wcgR_7_1 S X mG_576 dX2_numberFunctions_83 ?_
        refine lv_iload_n hx hb dX2_numberFunctions_86 rfl (lv_at hl 1 rfl) ?_
        obtain ⟨r87, τ87, hq87, hg⟩ := bd_some hg
        refine gc_Vi (As := [.int v1]) (rest := [.int v1, .ref (ad 40)]) (q0 := 2) (ci := 7) S X (k2_X4_addFunction l dC dI ad kc sv hq87 H.size) cw_X4_addFunction mG_1221 rfl rfl rfl rfl rfl hl.1 (Nat.le_of_ble_eq_true rfl) dX2_numberFunctions_87 ⟨by omega, by omega⟩ (fun H locs X => ?_)
        obtain ⟨hi90, hg⟩ := gd_some hg
        refine wcsA_26 S X hi90 dX2_numberFunctions_90 (fun H locs X => ?_)
        exact w_X2_numberFunctions_b91 S hr hk hR hrec39 X (lv_sub hl [0, 1] rfl) hg
set_option maxHeartbeats 4000000 in
set_option maxRecDepth 100000 in
theorem w_X2_numberFunctions_L39 (S : CallFix p m c cX2_numberFunctions 2 s args uG RX2) (hr : meth.sig.returnType = none) (hk : meth.locks = false) (hR : 1 ≤ R.frames ∧ 21 ≤ R.locals) : ∀ (n : Nat) (v1 : Int32) (σ : S5) (H : Heap) (locs : List Loc) (ls : Array Slot), gX (dC, dI) (tC kc) (wC ad kc sv) (zC ak) A s σ H locs → lv_has ls 2 [(0, .ref (ad 7)), (1, .int v1)] → f_X2_numberFunctions_L39  n v1 σ = some (r, τ) → W p l e R s m args below meth c H locs 0 0 (MQ below (gQv (dC, dI) (tC kc) (wC ad kc sv) A r τ) args s 0 0 A) (F0 m 39 ls []) := by
  intro n
  induction n with
  | zero => intro v1 σ H locs ls X hl hg; cases hg
  | succ n ih => intro v1 σ H locs ls X hl hg; exact w_X2_numberFunctions_B39 S hr hk hR ih X hl hg
set_option maxHeartbeats 4000000 in
set_option maxRecDepth 100000 in
theorem w_X2_numberFunctions_B2 {σ : S5} {rec2 : Int32 → S5 → Option (Unit × S5)} {v1 : Int32} {H : Heap} {locs : List Loc} {ls : Array Slot} (S : CallFix p m c cX2_numberFunctions 2 s args uG RX2) (hr : meth.sig.returnType = none) (hk : meth.locks = false) (hR : 1 ≤ R.frames ∧ 21 ≤ R.locals)
    (hrec2 : ∀ (v1 : Int32) (σ : S5) (H : Heap) (locs : List Loc) (ls : Array Slot), gX (dC, dI) (tC kc) (wC ad kc sv) (zC ak) A s σ H locs → lv_has ls 2 [(0, .ref (ad 7)), (1, .int v1)] → rec2 v1 σ = some (r, τ) → W p l e R s m args below meth c H locs 0 0 (MQ below (gQv (dC, dI) (tC kc) (wC ad kc sv) A r τ) args s 0 0 A) (F0 m 2 ls []))
    (X : gX (dC, dI) (tC kc) (wC ad kc sv) (zC ak) A s σ H locs) (hl : lv_has ls 2 [(0, .ref (ad 7)), (1, .int v1)]) (hg : f_X2_numberFunctions_B2 rec2 v1 σ = some (r, τ)) : W p l e R s m args below meth c H locs 0 0 (MQ below (gQv (dC, dI) (tC kc) (wC ad kc sv) A r τ) args s 0 0 A) (F0 m 2 ls []) := by
  have hx := S.1
  have hb := S.2.1
  have hown := S.2.2.2.1
  have hu := S.2.2.2.2
  unfold f_X2_numberFunctions_B2 at hg
  refine lv_iload_n hx hb dX2_numberFunctions_2 rfl (lv_at hl 1 rfl) ?_
  refine lv_aload_n hx hb dX2_numberFunctions_3 rfl (lv_at hl 0 rfl) ?_
  refine wcgR_7_1 S X mG_576 dX2_numberFunctions_4 ?_
  refine wcgI_5 (v := (gI σ 5)) S X mG_297 rfl dX2_numberFunctions_7 ?_
  refine lv_icmp_ge (tgt := 37) hx hb dX2_numberFunctions_10 (by decide) (fun c10 => ?_) (fun c10 => ?_)
  · have hg := (if_pos c10).symm.trans hg
    refine lv_iconst (v := 0) hx hb dX2_numberFunctions_37 (by decide) ?_
    refine lv_istore_n (lv' := [(1, .int 0), (0, .ref (ad 7))]) hx hb dX2_numberFunctions_38 rfl hl (by decide) rfl (fun ls hl => ?_)
    exact w_X2_numberFunctions_L39 S hr hk hR _ _ _ _ _ _ X (lv_sub hl [1, 0] rfl) hg
  · have hg := (if_neg c10).symm.trans hg
    refine lv_aload_n hx hb dX2_numberFunctions_13 rfl (lv_at hl 0 rfl) ?_
    refine wcgR_7_2 S X mG_577 dX2_numberFunctions_14 ?_
    refine wcgR_4_7 S X mG_457 dX2_numberFunctions_17 ?_
    refine lv_aload_n hx hb dX2_numberFunctions_20 rfl (lv_at hl 0 rfl) ?_
    refine wcgR_7_1 S X mG_576 dX2_numberFunctions_21 ?_
    refine wcgR_2_12 S X mG_328 dX2_numberFunctions_24 ?_
    refine lv_iload_n hx hb dX2_numberFunctions_27 rfl (lv_at hl 1 rfl) ?_
    obtain ⟨hi28, hg⟩ := gd_some hg
    refine wclA_8 (v := (xA σ 8 v1)) S X hi28 rfl dX2_numberFunctions_28 ?_
    refine lv_iload_n hx hb dX2_numberFunctions_29 rfl (lv_at hl 1 rfl) ?_
    obtain ⟨hi30, hg⟩ := gd_some hg
    refine wcsA_26 S X hi30 dX2_numberFunctions_30 (fun H locs X => ?_)
    refine lv_iinc (v := (v1 + 1)) (lv' := [(1, .int (v1 + 1)), (0, .ref (ad 7))]) hx hb dX2_numberFunctions_31 hl (k := 1) rfl (by rfl) (by decide) rfl (fun ls hl => ?_)
    refine lv_goto (tgt := 2) hx hb dX2_numberFunctions_34 (by decide) ?_
    exact hrec2 _ _ _ _ _ X (lv_sub hl [1, 0] rfl) hg
set_option maxHeartbeats 4000000 in
set_option maxRecDepth 100000 in
theorem w_X2_numberFunctions_L2 (S : CallFix p m c cX2_numberFunctions 2 s args uG RX2) (hr : meth.sig.returnType = none) (hk : meth.locks = false) (hR : 1 ≤ R.frames ∧ 21 ≤ R.locals) : ∀ (n : Nat) (v1 : Int32) (σ : S5) (H : Heap) (locs : List Loc) (ls : Array Slot), gX (dC, dI) (tC kc) (wC ad kc sv) (zC ak) A s σ H locs → lv_has ls 2 [(0, .ref (ad 7)), (1, .int v1)] → f_X2_numberFunctions_L2  n v1 σ = some (r, τ) → W p l e R s m args below meth c H locs 0 0 (MQ below (gQv (dC, dI) (tC kc) (wC ad kc sv) A r τ) args s 0 0 A) (F0 m 2 ls []) := by
  intro n
  induction n with
  | zero => intro v1 σ H locs ls X hl hg; cases hg
  | succ n ih => intro v1 σ H locs ls X hl hg; exact w_X2_numberFunctions_B2 S hr hk hR ih X hl hg
set_option maxHeartbeats 4000000 in
set_option maxRecDepth 100000 in
theorem w_X2_numberFunctions {σ : S5}  {H : Heap} {locs : List Loc} {ls : Array Slot} (S : CallFix p m c cX2_numberFunctions 2 s args uG RX2) (hr : meth.sig.returnType = none) (hk : meth.locks = false) (hR : 1 ≤ R.frames ∧ 21 ≤ R.locals)
    (X : gX (dC, dI) (tC kc) (wC ad kc sv) (zC ak) A s σ H locs) (hl : lv_has ls 2 [(0, .ref (ad 7))]) (hg : f_X2_numberFunctions  σ = some (r, τ)) : W p l e R s m args below meth c H locs 0 0 (MQ below (gQv (dC, dI) (tC kc) (wC ad kc sv) A r τ) args s 0 0 A) (F0 m 0 ls []) := by
  have hx := S.1
  have hb := S.2.1
  have hown := S.2.2.2.1
  have hu := S.2.2.2.2
  unfold f_X2_numberFunctions at hg
  refine lv_iconst (v := 0) hx hb dX2_numberFunctions_0 (by decide) ?_
  refine lv_istore_n (lv' := [(1, .int 0), (0, .ref (ad 7))]) hx hb dX2_numberFunctions_1 rfl hl (by decide) rfl (fun ls hl => ?_)
  exact w_X2_numberFunctions_L2 S hr hk hR _ _ _ _ _ _ X (lv_sub hl [1, 0] rfl) hg
end MX2_numberFunctions
set_option maxRecDepth 100000 in
theorem k2_X2_numberFunctions (l : Launch) (dC : Nat → ClassId) (dI : Nat → Nat → Nat) {ak : Nat → Nat} (ad : Nat → Nat) (kc : Nat → ClassId) (sv : Value) {σ τ : S5}  {r : Unit} (hg : f_X2_numberFunctions  σ = some (r, τ)) (sz : Nat) : Met l yX2_numberFunctions (Cond.code yX2_numberFunctions cX2_numberFunctions 2 none :: uG) { frames := 1, cells := 0, slots := 0, locals := 21 } (gPc (dC, dI) (tC kc) (wC ad kc sv) (zC ak) [.ref (ad 7)] σ sz) (gQv (dC, dI) (tC kc) (wC ad kc sv) (va_A (wC ad kc sv σ) sz) r τ) 0 0 (va_A (wC ad kc sv σ) sz) :=
  g_start (by decide) (Nat.le_of_ble_eq_true rfl) (fun p e s m below meth c ls S hr hk X hl => w_X2_numberFunctions S hr hk ⟨Nat.le_refl _, Nat.le_refl _⟩ X hl hg)
section MX2_resolveUses
variable {p : Program} {l : Launch} {e : Env} {R : Room} {s : State} {m : MethodId} {args : Array Value} {below : List Frame} {meth : Method} {c : Code} {dC : Nat → ClassId} {dI : Nat → Nat → Nat} {ak : Nat → Nat} {A : Nat → Prop} {ad : Nat → Nat} {kc : Nat → ClassId} {sv : Value} {r : Unit} {τ : S5}
set_option maxHeartbeats 4000000 in
set_option maxRecDepth 100000 in
theorem w_X2_resolveUses_b85 {σ : S5} {rec2 : Int32 → S5 → Option (Unit × S5)} {v1 : Int32} {v2 : Int32} {H : Heap} {locs : List Loc} {ls : Array Slot} (S : CallFix p m c cX2_resolveUses 4 s args uG RX2) (hr : meth.sig.returnType = none) (hk : meth.locks = false) (hR : 2 ≤ R.frames ∧ 50 ≤ R.locals)
    (hrec2 : ∀ (v1 : Int32) (σ : S5) (H : Heap) (locs : List Loc) (ls : Array Slot), gX (dC, dI) (tC kc) (wC ad kc sv) (zC ak) A s σ H locs → lv_has ls 4 [(0, .ref (ad 7)), (1, .int v1)] → rec2 v1 σ = some (r, τ) → W p l e R s m args below meth c H locs 0 0 (MQ below (gQv (dC, dI) (tC kc) (wC ad kc sv) A r τ) args s 0 0 A) (F0 m 2 ls []))
    (X : gX (dC, dI) (tC kc) (wC ad kc sv) (zC ak) A s σ H locs) (hl : lv_has ls 4 [(0, .ref (ad 7)), (1, .int v1), (2, .int v2)]) (hg : f_X2_resolveUses_b85 rec2 v1 v2 σ = some (r, τ)) : W p l e R s m args below meth c H locs 0 0 (MQ below (gQv (dC, dI) (tC kc) (wC ad kc sv) A r τ) args s 0 0 A) (F0 m 85 ls []) := by
  have hx := S.1
  have hb := S.2.1
  have hown := S.2.2.2.1
  have hu := S.2.2.2.2
  unfold f_X2_resolveUses_b85 at hg
  refine lv_aload_n hx hb dX2_resolveUses_85 rfl (lv_at hl 0 rfl) ?_
  refine wcgR_7_2 S X mG_577 dX2_resolveUses_86 ?_
  refine wcgR_4_13 S X mG_469 dX2_resolveUses_89 ?_
  refine lv_iload_n hx hb dX2_resolveUses_92 rfl (lv_at hl 1 rfl) ?_
  refine lv_iload_n hx hb dX2_resolveUses_93 rfl (lv_at hl 2 rfl) ?_
  obtain ⟨hi94, hg⟩ := gd_some hg
  refine wcsA_30 S X hi94 dX2_resolveUses_94 (fun H locs X => ?_)
  refine lv_iinc (v := (v1 + 1)) (lv' := [(1, .int (v1 + 1)), (0, .ref (ad 7)), (2, .int v2)]) hx hb dX2_resolveUses_95 hl (k := 1) rfl (by rfl) (by decide) rfl (fun ls hl => ?_)
  refine lv_goto (tgt := 2) hx hb dX2_resolveUses_98 (by decide) ?_
  exact hrec2 _ _ _ _ _ X (lv_sub hl [1, 0] rfl) hg
set_option maxHeartbeats 4000000 in
set_option maxRecDepth 100000 in
theorem w_X2_resolveUses_b80 {σ : S5} {rec2 : Int32 → S5 → Option (Unit × S5)} {v1 : Int32} {v3 : Int32} {H : Heap} {locs : List Loc} {ls : Array Slot} (S : CallFix p m c cX2_resolveUses 4 s args uG RX2) (hr : meth.sig.returnType = none) (hk : meth.locks = false) (hR : 2 ≤ R.frames ∧ 50 ≤ R.locals)
    (hrec2 : ∀ (v1 : Int32) (σ : S5) (H : Heap) (locs : List Loc) (ls : Array Slot), gX (dC, dI) (tC kc) (wC ad kc sv) (zC ak) A s σ H locs → lv_has ls 4 [(0, .ref (ad 7)), (1, .int v1)] → rec2 v1 σ = some (r, τ) → W p l e R s m args below meth c H locs 0 0 (MQ below (gQv (dC, dI) (tC kc) (wC ad kc sv) A r τ) args s 0 0 A) (F0 m 2 ls []))
    (X : gX (dC, dI) (tC kc) (wC ad kc sv) (zC ak) A s σ H locs) (hl : lv_has ls 4 [(0, .ref (ad 7)), (1, .int v1), (3, .int v3)]) (hg : f_X2_resolveUses_b80 rec2 v1 v3 σ = some (r, τ)) : W p l e R s m args below meth c H locs 0 0 (MQ below (gQv (dC, dI) (tC kc) (wC ad kc sv) A r τ) args s 0 0 A) (F0 m 80 ls []) := by
  have hx := S.1
  have hb := S.2.1
  have hown := S.2.2.2.1
  have hu := S.2.2.2.2
  unfold f_X2_resolveUses_b80 at hg
  refine lv_bipush (v := (-2)) hx hb dX2_resolveUses_80 (by decide) ?_
  refine lv_iload_n hx hb dX2_resolveUses_82 rfl (lv_at hl 2 rfl) ?_
  refine lv_isub hx hb dX2_resolveUses_83 ?_
  refine lv_istore_n (lv' := [(2, .int ((-2) - v3)), (0, .ref (ad 7)), (1, .int v1), (3, .int v3)]) hx hb dX2_resolveUses_84 rfl hl (by decide) rfl (fun ls hl => ?_)
  exact w_X2_resolveUses_b85 S hr hk hR hrec2 X (lv_sub hl [1, 2, 0] rfl) hg
set_option maxHeartbeats 4000000 in
set_option maxRecDepth 100000 in
theorem w_X2_resolveUses_B2 {σ : S5} {rec2 : Int32 → S5 → Option (Unit × S5)} {v1 : Int32} {H : Heap} {locs : List Loc} {ls : Array Slot} (S : CallFix p m c cX2_resolveUses 4 s args uG RX2) (hr : meth.sig.returnType = none) (hk : meth.locks = false) (hR : 2 ≤ R.frames ∧ 50 ≤ R.locals)
    (hrec2 : ∀ (v1 : Int32) (σ : S5) (H : Heap) (locs : List Loc) (ls : Array Slot), gX (dC, dI) (tC kc) (wC ad kc sv) (zC ak) A s σ H locs → lv_has ls 4 [(0, .ref (ad 7)), (1, .int v1)] → rec2 v1 σ = some (r, τ) → W p l e R s m args below meth c H locs 0 0 (MQ below (gQv (dC, dI) (tC kc) (wC ad kc sv) A r τ) args s 0 0 A) (F0 m 2 ls []))
    (X : gX (dC, dI) (tC kc) (wC ad kc sv) (zC ak) A s σ H locs) (hl : lv_has ls 4 [(0, .ref (ad 7)), (1, .int v1)]) (hg : f_X2_resolveUses_B2 rec2 v1 σ = some (r, τ)) : W p l e R s m args below meth c H locs 0 0 (MQ below (gQv (dC, dI) (tC kc) (wC ad kc sv) A r τ) args s 0 0 A) (F0 m 2 ls []) := by
  have hx := S.1
  have hb := S.2.1
  have hown := S.2.2.2.1
  have hu := S.2.2.2.2
  unfold f_X2_resolveUses_B2 at hg
  refine lv_iload_n hx hb dX2_resolveUses_2 rfl (lv_at hl 1 rfl) ?_
  refine lv_aload_n hx hb dX2_resolveUses_3 rfl (lv_at hl 0 rfl) ?_
  refine wcgR_7_2 S X mG_577 dX2_resolveUses_4 ?_
  refine wcgI_10 (v := (gI σ 10)) S X mG_471 rfl dX2_resolveUses_7 ?_
  refine lv_icmp_ge (tgt := 101) hx hb dX2_resolveUses_10 (by decide) (fun c10 => ?_) (fun c10 => ?_)
  · have hg := (if_pos c10).symm.trans hg
    obtain ⟨-, rfl⟩ := fin_some hg
    exact gr_v S hr hk X dX2_resolveUses_101
  · have hg := (if_neg c10).symm.trans hg
    refine lv_aload_n hx hb dX2_resolveUses_13 rfl (lv_at hl 0 rfl) ?_
    refine wcgR_7_2 S X mG_577 dX2_resolveUses_14 ?_
    refine lv_aload_n hx hb dX2_resolveUses_17 rfl (lv_at hl 0 rfl) ?_
    refine wcgR_7_2 S X mG_577 dX2_resolveUses_18 ?_
    refine wcgR_4_10 S X mG_463 dX2_resolveUses_21 ?_
    refine lv_iload_n hx hb dX2_resolveUses_24 rfl (lv_at hl 1 rfl) ?_
    obtain ⟨hi25, hg⟩ := gd_some hg
    refine wclA_27 (v := (xA σ 27 v1)) S X hi25 rfl dX2_resolveUses_25 ?_
    refine lv_aload_n hx hb dX2_resolveUses_26 rfl (lv_at hl 0 rfl) ?_
    refine wcgR_7_2 S X mG_577 dX2_resolveUses_27 ?_
    refine wcgR_4_9 S X mG_461 dX2_resolveUses_30 ?_
    refine lv_iload_n hx hb dX2_resolveUses_33 rfl (lv_at hl 1 rfl) ?_
    obtain ⟨hi34, hg⟩ := gd_some hg
    refine wclB_4 (v := (xB σ 4 v1)) S X hi34 rfl dX2_resolveUses_34 ?_
    obtain ⟨r35, τ35, hq35, hg⟩ := bd_some hg
    refine gc_Vi (As := [.int (xA σ 27 v1), .long (xB σ 4 v1)]) (rest := []) (q0 := 4) (ci := 9) S X (k2_X6_find l dC dI ad kc sv hq35 H.size) cw_X6_find mG_1226 rfl rfl rfl rfl rfl hl.1 (Nat.le_of_ble_eq_true rfl) dX2_resolveUses_35 ⟨by omega, by omega⟩ (fun H locs X => ?_)
    refine lv_istore_n (lv' := [(2, .int r35), (0, .ref (ad 7)), (1, .int v1)]) hx hb dX2_resolveUses_38 rfl hl (by decide) rfl (fun ls hl => ?_)
    refine lv_iload_n hx hb dX2_resolveUses_39 rfl (lv_at hl 0 rfl) ?_
    refine lv_iconst (v := (-1)) hx hb dX2_resolveUses_40 (by decide) ?_
    refine lv_icmp_ne (tgt := 85) hx hb dX2_resolveUses_41 (by decide) (fun c41 => ?_) (fun c41 => ?_)
    · have hg := (if_neg c41).symm.trans hg
      exact w_X2_resolveUses_b85 S hr hk hR hrec2 X (lv_sub hl [1, 2, 0] rfl) hg
    · have hg := (if_pos c41).symm.trans hg
      refine lv_aload_n hx hb dX2_resolveUses_44 rfl (lv_at hl 1 rfl) ?_
      refine wcgR_7_1 S X mG_576 dX2_resolveUses_45 ?_
      refine lv_aload_n hx hb dX2_resolveUses_48 rfl (lv_at hl 1 rfl) ?_
      refine wcgR_7_2 S X mG_577 dX2_resolveUses_49 ?_
      refine wcgR_4_9 S X mG_461 dX2_resolveUses_52 ?_
      refine lv_iload_n hx hb dX2_resolveUses_55 rfl (lv_at hl 2 rfl) ?_
      obtain ⟨hi56, hg⟩ := gd_some hg
      refine wclB_4 (v := (xB τ35 4 v1)) S X hi56 rfl dX2_resolveUses_56 ?_
      obtain ⟨r57, τ57, hq57, hg⟩ := bd_some hg
      refine gc_Vi (As := [.long (xB τ35 4 v1)]) (rest := []) (q0 := 2) (ci := 7) S X (k2_X4_topOf l dC dI ad kc sv hq57 H.size) cw_X4_topOf mG_1230 rfl rfl rfl rfl rfl hl.1 (Nat.le_of_ble_eq_true rfl) dX2_resolveUses_57 ⟨by omega, by omega⟩ (fun H locs X => ?_)
      refine lv_istore_n (lv' := [(3, .int r57), (2, .int r35), (0, .ref (ad 7)), (1, .int v1)]) hx hb dX2_resolveUses_60 rfl hl (by decide) rfl (fun ls hl => ?_)
      refine lv_iload_n hx hb dX2_resolveUses_61 rfl (lv_at hl 0 rfl) ?_
      refine lv_iconst (v := (-1)) hx hb dX2_resolveUses_62 (by decide) ?_
      refine lv_icmp_ne (tgt := 80) hx hb dX2_resolveUses_63 (by decide) (fun c63 => ?_) (fun c63 => ?_)
      · have hg := (if_neg c63).symm.trans hg
        exact w_X2_resolveUses_b80 S hr hk hR hrec2 X (lv_sub hl [2, 3, 0] rfl) hg
      · have hg := (if_pos c63).symm.trans hg
        refine lv_aload_n hx hb dX2_resolveUses_66 rfl (lv_at hl 2 rfl) ?_
        refine lv_iconst (v := 5) hx hb dX2_resolveUses_67 (by decide) ?_
        refine lv_aload_n hx hb dX2_resolveUses_68 rfl (lv_at hl 2 rfl) ?_
        refine wcgR_7_2 S X mG_577 dX2_resolveUses_69 ?_
        refine wcgR_4_11 S X mG_465 dX2_resolveUses_72 ?_
        refine lv_iload_n hx hb dX2_resolveUses_75 rfl (lv_at hl 3 rfl) ?_
        obtain ⟨hi76, hg⟩ := gd_some hg
        refine wclA_28 (v := (xA τ57 28 v1)) S X hi76 rfl dX2_resolveUses_76 ?_
        obtain ⟨r77, τ77, hq77, hg⟩ := bd_some hg
        refine gc_Vv (As := [.int 5, .int (xA τ57 28 v1)]) (rest := []) (q0 := 7) (ci := 5) S X (k2_X2_refuse l dC dI ad kc sv hq77 H.size) cw_X2_refuse mG_1231 rfl rfl rfl rfl rfl hl.1 (Nat.le_of_ble_eq_true rfl) dX2_resolveUses_77 ⟨by omega, by omega⟩ (fun H locs X => ?_)
        exact w_X2_resolveUses_b80 S hr hk hR hrec2 X (lv_sub hl [2, 3, 0] rfl) hg
set_option maxHeartbeats 4000000 in
set_option maxRecDepth 100000 in
theorem w_X2_resolveUses_L2 (S : CallFix p m c cX2_resolveUses 4 s args uG RX2) (hr : meth.sig.returnType = none) (hk : meth.locks = false) (hR : 2 ≤ R.frames ∧ 50 ≤ R.locals) : ∀ (n : Nat) (v1 : Int32) (σ : S5) (H : Heap) (locs : List Loc) (ls : Array Slot), gX (dC, dI) (tC kc) (wC ad kc sv) (zC ak) A s σ H locs → lv_has ls 4 [(0, .ref (ad 7)), (1, .int v1)] → f_X2_resolveUses_L2  n v1 σ = some (r, τ) → W p l e R s m args below meth c H locs 0 0 (MQ below (gQv (dC, dI) (tC kc) (wC ad kc sv) A r τ) args s 0 0 A) (F0 m 2 ls []) := by
  intro n
  induction n with
  | zero => intro v1 σ H locs ls X hl hg; cases hg
  | succ n ih => intro v1 σ H locs ls X hl hg; exact w_X2_resolveUses_B2 S hr hk hR ih X hl hg
set_option maxHeartbeats 4000000 in
set_option maxRecDepth 100000 in
theorem w_X2_resolveUses {σ : S5}  {H : Heap} {locs : List Loc} {ls : Array Slot} (S : CallFix p m c cX2_resolveUses 4 s args uG RX2) (hr : meth.sig.returnType = none) (hk : meth.locks = false) (hR : 2 ≤ R.frames ∧ 50 ≤ R.locals)
    (X : gX (dC, dI) (tC kc) (wC ad kc sv) (zC ak) A s σ H locs) (hl : lv_has ls 4 [(0, .ref (ad 7))]) (hg : f_X2_resolveUses  σ = some (r, τ)) : W p l e R s m args below meth c H locs 0 0 (MQ below (gQv (dC, dI) (tC kc) (wC ad kc sv) A r τ) args s 0 0 A) (F0 m 0 ls []) := by
  have hx := S.1
  have hb := S.2.1
  have hown := S.2.2.2.1
  have hu := S.2.2.2.2
  unfold f_X2_resolveUses at hg
  refine lv_iconst (v := 0) hx hb dX2_resolveUses_0 (by decide) ?_
  refine lv_istore_n (lv' := [(1, .int 0), (0, .ref (ad 7))]) hx hb dX2_resolveUses_1 rfl hl (by decide) rfl (fun ls hl => ?_)
  exact w_X2_resolveUses_L2 S hr hk hR _ _ _ _ _ _ X (lv_sub hl [1, 0] rfl) hg
end MX2_resolveUses
set_option maxRecDepth 100000 in
theorem k2_X2_resolveUses (l : Launch) (dC : Nat → ClassId) (dI : Nat → Nat → Nat) {ak : Nat → Nat} (ad : Nat → Nat) (kc : Nat → ClassId) (sv : Value) {σ τ : S5}  {r : Unit} (hg : f_X2_resolveUses  σ = some (r, τ)) (sz : Nat) : Met l yX2_resolveUses (Cond.code yX2_resolveUses cX2_resolveUses 4 none :: uG) { frames := 2, cells := 0, slots := 0, locals := 50 } (gPc (dC, dI) (tC kc) (wC ad kc sv) (zC ak) [.ref (ad 7)] σ sz) (gQv (dC, dI) (tC kc) (wC ad kc sv) (va_A (wC ad kc sv σ) sz) r τ) 0 0 (va_A (wC ad kc sv σ) sz) :=
  g_start (by decide) (Nat.le_of_ble_eq_true rfl) (fun p e s m below meth c ls S hr hk X hl => w_X2_resolveUses S hr hk ⟨Nat.le_refl _, Nat.le_refl _⟩ X hl hg)
section MX2_refuseManyParameters
variable {p : Program} {l : Launch} {e : Env} {R : Room} {s : State} {m : MethodId} {args : Array Value} {below : List Frame} {meth : Method} {c : Code} {dC : Nat → ClassId} {dI : Nat → Nat → Nat} {ak : Nat → Nat} {A : Nat → Prop} {ad : Nat → Nat} {kc : Nat → ClassId} {sv : Value} {r : Unit} {τ : S5}
set_option maxHeartbeats 4000000 in
set_option maxRecDepth 100000 in
theorem w_X2_refuseManyParameters_b80 {σ : S5} {rec2 : Int32 → S5 → Option (Unit × S5)} {v1 : Int32} {H : Heap} {locs : List Loc} {ls : Array Slot} (S : CallFix p m c cX2_refuseManyParameters 3 s args uG RX2) (hr : meth.sig.returnType = none) (hk : meth.locks = false) (hR : 1 ≤ R.frames ∧ 22 ≤ R.locals)
    (hrec2 : ∀ (v1 : Int32) (σ : S5) (H : Heap) (locs : List Loc) (ls : Array Slot), gX (dC, dI) (tC kc) (wC ad kc sv) (zC ak) A s σ H locs → lv_has ls 3 [(0, .ref (ad 7)), (1, .int v1)] → rec2 v1 σ = some (r, τ) → W p l e R s m args below meth c H locs 0 0 (MQ below (gQv (dC, dI) (tC kc) (wC ad kc sv) A r τ) args s 0 0 A) (F0 m 2 ls []))
    (X : gX (dC, dI) (tC kc) (wC ad kc sv) (zC ak) A s σ H locs) (hl : lv_has ls 3 [(0, .ref (ad 7)), (1, .int v1)]) (hg : f_X2_refuseManyParameters_b80 rec2 v1 σ = some (r, τ)) : W p l e R s m args below meth c H locs 0 0 (MQ below (gQv (dC, dI) (tC kc) (wC ad kc sv) A r τ) args s 0 0 A) (F0 m 80 ls []) := by
  have hx := S.1
  have hb := S.2.1
  have hown := S.2.2.2.1
  have hu := S.2.2.2.2
  unfold f_X2_refuseManyParameters_b80 at hg
  refine lv_iinc (v := (v1 + 1)) (lv' := [(1, .int (v1 + 1)), (0, .ref (ad 7))]) hx hb dX2_refuseManyParameters_80 hl (k := 1) rfl (by rfl) (by decide) rfl (fun ls hl => ?_)
  refine lv_goto (tgt := 2) hx hb dX2_refuseManyParameters_83 (by decide) ?_
  exact hrec2 _ _ _ _ _ X (lv_sub hl [1, 0] rfl) hg
set_option maxHeartbeats 4000000 in
set_option maxRecDepth 100000 in
theorem w_X2_refuseManyParameters_B2 {σ : S5} {rec2 : Int32 → S5 → Option (Unit × S5)} {v1 : Int32} {H : Heap} {locs : List Loc} {ls : Array Slot} (S : CallFix p m c cX2_refuseManyParameters 3 s args uG RX2) (hr : meth.sig.returnType = none) (hk : meth.locks = false) (hR : 1 ≤ R.frames ∧ 22 ≤ R.locals)
    (hrec2 : ∀ (v1 : Int32) (σ : S5) (H : Heap) (locs : List Loc) (ls : Array Slot), gX (dC, dI) (tC kc) (wC ad kc sv) (zC ak) A s σ H locs → lv_has ls 3 [(0, .ref (ad 7)), (1, .int v1)] → rec2 v1 σ = some (r, τ) → W p l e R s m args below meth c H locs 0 0 (MQ below (gQv (dC, dI) (tC kc) (wC ad kc sv) A r τ) args s 0 0 A) (F0 m 2 ls []))
    (X : gX (dC, dI) (tC kc) (wC ad kc sv) (zC ak) A s σ H locs) (hl : lv_has ls 3 [(0, .ref (ad 7)), (1, .int v1)]) (hg : f_X2_refuseManyParameters_B2 rec2 v1 σ = some (r, τ)) : W p l e R s m args below meth c H locs 0 0 (MQ below (gQv (dC, dI) (tC kc) (wC ad kc sv) A r τ) args s 0 0 A) (F0 m 2 ls []) := by
  have hx := S.1
  have hb := S.2.1
  have hown := S.2.2.2.1
  have hu := S.2.2.2.2
  unfold f_X2_refuseManyParameters_B2 at hg
  refine lv_iload_n hx hb dX2_refuseManyParameters_2 rfl (lv_at hl 1 rfl) ?_
  refine lv_aload_n hx hb dX2_refuseManyParameters_3 rfl (lv_at hl 0 rfl) ?_
  refine wcgR_7_1 S X mG_576 dX2_refuseManyParameters_4 ?_
  refine wcgI_6 (v := (gI σ 6)) S X mG_302 rfl dX2_refuseManyParameters_7 ?_
  refine lv_icmp_ge (tgt := 86) hx hb dX2_refuseManyParameters_10 (by decide) (fun c10 => ?_) (fun c10 => ?_)
  · have hg := (if_pos c10).symm.trans hg
    obtain ⟨-, rfl⟩ := fin_some hg
    exact gr_v S hr hk X dX2_refuseManyParameters_86
  · have hg := (if_neg c10).symm.trans hg
    refine lv_aload_n hx hb dX2_refuseManyParameters_13 rfl (lv_at hl 0 rfl) ?_
    refine wcgR_7_1 S X mG_576 dX2_refuseManyParameters_14 ?_
    refine wcgR_2_12 S X mG_328 dX2_refuseManyParameters_17 ?_
    refine lv_iload_n hx hb dX2_refuseManyParameters_20 rfl (lv_at hl 1 rfl) ?_
    obtain ⟨hi21, hg⟩ := gd_some hg
    refine wclA_8 (v := (xA σ 8 v1)) S X hi21 rfl dX2_refuseManyParameters_21 ?_
    refine lv_istore_n (lv' := [(2, .int (xA σ 8 v1)), (0, .ref (ad 7)), (1, .int v1)]) hx hb dX2_refuseManyParameters_22 rfl hl (by decide) rfl (fun ls hl => ?_)
    refine lv_aload_n hx hb dX2_refuseManyParameters_23 rfl (lv_at hl 1 rfl) ?_
    refine wcgR_7_1 S X mG_576 dX2_refuseManyParameters_24 ?_
    refine wcgR_2_7 S X mG_312 dX2_refuseManyParameters_27 ?_
    refine lv_iload_n hx hb dX2_refuseManyParameters_30 rfl (lv_at hl 2 rfl) ?_
    refine lv_aload_n hx hb dX2_refuseManyParameters_31 rfl (lv_at hl 1 rfl) ?_
    refine wcgR_7_1 S X mG_576 dX2_refuseManyParameters_32 ?_
    refine wcgR_2_8 S X mG_315 dX2_refuseManyParameters_35 ?_
    refine lv_iload_n hx hb dX2_refuseManyParameters_38 rfl (lv_at hl 2 rfl) ?_
    obtain ⟨hi39, hg⟩ := gd_some hg
    refine wclA_4 (v := (xA σ 4 v1)) S X hi39 rfl dX2_refuseManyParameters_39 ?_
    refine lv_aload_n hx hb dX2_refuseManyParameters_40 rfl (lv_at hl 1 rfl) ?_
    refine wcgR_7_2 S X mG_577 dX2_refuseManyParameters_41 ?_
    refine wcgR_4_1 S X mG_443 dX2_refuseManyParameters_44 ?_
    refine lv_iload_n hx hb dX2_refuseManyParameters_47 rfl (lv_at hl 0 rfl) ?_
    obtain ⟨hi48, hg⟩ := gd_some hg
    refine wclA_20 (v := (xA σ 20 (xA σ 8 v1))) S X hi48 rfl dX2_refuseManyParameters_48 ?_
    refine lv_iadd hx hb dX2_refuseManyParameters_49 ?_
    obtain ⟨hi50, hg⟩ := gd_some hg
    refine wcsA_3 S X hi50 dX2_refuseManyParameters_50 (fun H locs X => ?_)
    refine lv_aload_n hx hb dX2_refuseManyParameters_51 rfl (lv_at hl 1 rfl) ?_
    refine wcgR_7_1 S X mG_576 dX2_refuseManyParameters_52 ?_
    refine wcgR_2_7 S X mG_312 dX2_refuseManyParameters_55 ?_
    refine lv_iload_n hx hb dX2_refuseManyParameters_58 rfl (lv_at hl 2 rfl) ?_
    obtain ⟨hi59, hg⟩ := gd_some hg
    refine wclA_3 (v := (xA (pA σ 3 v1 ((xA σ 4 v1) + (xA σ 20 (xA σ 8 v1)))) 3 v1)) S X hi59 rfl dX2_refuseManyParameters_59 ?_
    refine lv_bipush (v := 8) hx hb dX2_refuseManyParameters_60 (by decide) ?_
    refine lv_icmp_le (tgt := 80) hx hb dX2_refuseManyParameters_62 (by decide) (fun c62 => ?_) (fun c62 => ?_)
    · have hg := (if_pos c62).symm.trans hg
      exact w_X2_refuseManyParameters_b80 S hr hk hR hrec2 X (lv_sub hl [1, 2] rfl) hg
    · have hg := (if_neg c62).symm.trans hg
      refine lv_aload_n hx hb dX2_refuseManyParameters_65 rfl (lv_at hl 1 rfl) ?_
      refine lv_bipush (v := 6) hx hb dX2_refuseManyParameters_66 (by decide) ?_
      refine lv_aload_n hx hb dX2_refuseManyParameters_68 rfl (lv_at hl 1 rfl) ?_
      refine wcgR_7_2 S X mG_577 dX2_refuseManyParameters_69 ?_
      refine wcgR_4_5 S X mG_453 dX2_refuseManyParameters_72 ?_
      refine lv_iload_n hx hb dX2_refuseManyParameters_75 rfl (lv_at hl 0 rfl) ?_
      obtain ⟨hi76, hg⟩ := gd_some hg
      refine wclA_24 (v := (xA σ 24 (xA σ 8 v1))) S X hi76 rfl dX2_refuseManyParameters_76 ?_
      obtain ⟨r77, τ77, hq77, hg⟩ := bd_some hg
      refine gc_Vv (As := [.int 6, .int (xA σ 24 (xA σ 8 v1))]) (rest := []) (q0 := 7) (ci := 5) S X (k2_X2_refuse l dC dI ad kc sv hq77 H.size) cw_X2_refuse mG_1231 rfl rfl rfl rfl rfl hl.1 (Nat.le_of_ble_eq_true rfl) dX2_refuseManyParameters_77 ⟨by omega, by omega⟩ (fun H locs X => ?_)
      exact w_X2_refuseManyParameters_b80 S hr hk hR hrec2 X (lv_sub hl [1, 2] rfl) hg
set_option maxHeartbeats 4000000 in
set_option maxRecDepth 100000 in
theorem w_X2_refuseManyParameters_L2 (S : CallFix p m c cX2_refuseManyParameters 3 s args uG RX2) (hr : meth.sig.returnType = none) (hk : meth.locks = false) (hR : 1 ≤ R.frames ∧ 22 ≤ R.locals) : ∀ (n : Nat) (v1 : Int32) (σ : S5) (H : Heap) (locs : List Loc) (ls : Array Slot), gX (dC, dI) (tC kc) (wC ad kc sv) (zC ak) A s σ H locs → lv_has ls 3 [(0, .ref (ad 7)), (1, .int v1)] → f_X2_refuseManyParameters_L2  n v1 σ = some (r, τ) → W p l e R s m args below meth c H locs 0 0 (MQ below (gQv (dC, dI) (tC kc) (wC ad kc sv) A r τ) args s 0 0 A) (F0 m 2 ls []) := by
  intro n
  induction n with
  | zero => intro v1 σ H locs ls X hl hg; cases hg
  | succ n ih => intro v1 σ H locs ls X hl hg; exact w_X2_refuseManyParameters_B2 S hr hk hR ih X hl hg
set_option maxHeartbeats 4000000 in
set_option maxRecDepth 100000 in
theorem w_X2_refuseManyParameters {σ : S5}  {H : Heap} {locs : List Loc} {ls : Array Slot} (S : CallFix p m c cX2_refuseManyParameters 3 s args uG RX2) (hr : meth.sig.returnType = none) (hk : meth.locks = false) (hR : 1 ≤ R.frames ∧ 22 ≤ R.locals)
    (X : gX (dC, dI) (tC kc) (wC ad kc sv) (zC ak) A s σ H locs) (hl : lv_has ls 3 [(0, .ref (ad 7))]) (hg : f_X2_refuseManyParameters  σ = some (r, τ)) : W p l e R s m args below meth c H locs 0 0 (MQ below (gQv (dC, dI) (tC kc) (wC ad kc sv) A r τ) args s 0 0 A) (F0 m 0 ls []) := by
  have hx := S.1
  have hb := S.2.1
  have hown := S.2.2.2.1
  have hu := S.2.2.2.2
  unfold f_X2_refuseManyParameters at hg
  refine lv_iconst (v := 0) hx hb dX2_refuseManyParameters_0 (by decide) ?_
  refine lv_istore_n (lv' := [(1, .int 0), (0, .ref (ad 7))]) hx hb dX2_refuseManyParameters_1 rfl hl (by decide) rfl (fun ls hl => ?_)
  exact w_X2_refuseManyParameters_L2 S hr hk hR _ _ _ _ _ _ X (lv_sub hl [1, 0] rfl) hg
end MX2_refuseManyParameters
set_option maxRecDepth 100000 in
theorem k2_X2_refuseManyParameters (l : Launch) (dC : Nat → ClassId) (dI : Nat → Nat → Nat) {ak : Nat → Nat} (ad : Nat → Nat) (kc : Nat → ClassId) (sv : Value) {σ τ : S5}  {r : Unit} (hg : f_X2_refuseManyParameters  σ = some (r, τ)) (sz : Nat) : Met l yX2_refuseManyParameters (Cond.code yX2_refuseManyParameters cX2_refuseManyParameters 3 none :: uG) { frames := 1, cells := 0, slots := 0, locals := 22 } (gPc (dC, dI) (tC kc) (wC ad kc sv) (zC ak) [.ref (ad 7)] σ sz) (gQv (dC, dI) (tC kc) (wC ad kc sv) (va_A (wC ad kc sv σ) sz) r τ) 0 0 (va_A (wC ad kc sv σ) sz) :=
  g_start (by decide) (Nat.le_of_ble_eq_true rfl) (fun p e s m below meth c ls S hr hk X hl => w_X2_refuseManyParameters S hr hk ⟨Nat.le_refl _, Nat.le_refl _⟩ X hl hg)
section MX2_findMain
variable {p : Program} {l : Launch} {e : Env} {R : Room} {s : State} {m : MethodId} {args : Array Value} {below : List Frame} {meth : Method} {c : Code} {dC : Nat → ClassId} {dI : Nat → Nat → Nat} {ak : Nat → Nat} {A : Nat → Prop} {ad : Nat → Nat} {kc : Nat → ClassId} {sv : Value} {r : Unit} {τ : S5}
set_option maxHeartbeats 4000000 in
set_option maxRecDepth 100000 in
theorem w_X2_findMain_b46 {σ : S5}  {H : Heap} {locs : List Loc} {ls : Array Slot} (S : CallFix p m c cX2_findMain 1 s args uG RX2) (hr : meth.sig.returnType = none) (hk : meth.locks = false) (hR : 1 ≤ R.frames ∧ 23 ≤ R.locals)
    (X : gX (dC, dI) (tC kc) (wC ad kc sv) (zC ak) A s σ H locs) (hl : lv_has ls 1 [(0, .ref (ad 7))]) (hg : f_X2_findMain_b46  σ = some (r, τ)) : W p l e R s m args below meth c H locs 0 0 (MQ below (gQv (dC, dI) (tC kc) (wC ad kc sv) A r τ) args s 0 0 A) (F0 m 46 ls []) := by
  have hx := S.1
  have hb := S.2.1
  have hown := S.2.2.2.1
  have hu := S.2.2.2.2
  unfold f_X2_findMain_b46 at hg
  refine lv_aload_n hx hb dX2_findMain_46 rfl (lv_at hl 0 rfl) ?_
  refine lv_bipush (v := 7) hx hb dX2_findMain_47 (by decide) ?_
  refine lv_iconst (v := 0) hx hb dX2_findMain_49 (by decide) ?_
  obtain ⟨r50, τ50, hq50, hg⟩ := bd_some hg
  refine gc_Vv (As := [.int 7, .int 0]) (rest := []) (q0 := 7) (ci := 5) S X (k2_X2_refuse l dC dI ad kc sv hq50 H.size) cw_X2_refuse mG_1231 rfl rfl rfl rfl rfl hl.1 (Nat.le_of_ble_eq_true rfl) dX2_findMain_50 ⟨by omega, by omega⟩ (fun H locs X => ?_)
  obtain ⟨-, rfl⟩ := fin_some hg
  exact gr_v S hr hk X dX2_findMain_53
set_option maxHeartbeats 4000000 in
set_option maxRecDepth 100000 in
theorem w_X2_findMain {σ : S5}  {H : Heap} {locs : List Loc} {ls : Array Slot} (S : CallFix p m c cX2_findMain 1 s args uG RX2) (hr : meth.sig.returnType = none) (hk : meth.locks = false) (hR : 1 ≤ R.frames ∧ 23 ≤ R.locals)
    (X : gX (dC, dI) (tC kc) (wC ad kc sv) (zC ak) A s σ H locs) (hl : lv_has ls 1 [(0, .ref (ad 7))]) (hg : f_X2_findMain  σ = some (r, τ)) : W p l e R s m args below meth c H locs 0 0 (MQ below (gQv (dC, dI) (tC kc) (wC ad kc sv) A r τ) args s 0 0 A) (F0 m 0 ls []) := by
  have hx := S.1
  have hb := S.2.1
  have hown := S.2.2.2.1
  have hu := S.2.2.2.2
  unfold f_X2_findMain at hg
  refine lv_aload_n hx hb dX2_findMain_0 rfl (lv_at hl 0 rfl) ?_
  refine wcgR_7_1 S X mG_576 dX2_findMain_1 ?_
  refine lv_aload_n hx hb dX2_findMain_4 rfl (lv_at hl 0 rfl) ?_
  refine wcgR_7_1 S X mG_576 dX2_findMain_5 ?_
  refine lv_ldc2 (own := RX2) (v := 1835100526) hx hb hown (hu _ mG_1259) dX2_findMain_8 ?_
  obtain ⟨r11, τ11, hq11, hg⟩ := bd_some hg
  refine gc_Vi (As := [.long 1835100526]) (rest := [.ref (ad 2)]) (q0 := 2) (ci := 7) S X (k2_X4_topOf l dC dI ad kc sv hq11 H.size) cw_X4_topOf mG_1230 rfl rfl rfl rfl rfl hl.1 (Nat.le_of_ble_eq_true rfl) dX2_findMain_11 ⟨by omega, by omega⟩ (fun H locs X => ?_)
  refine wcpI_7 S X mG_307 dX2_findMain_14 (fun H locs X => ?_)
  refine lv_aload_n hx hb dX2_findMain_17 rfl (lv_at hl 0 rfl) ?_
  refine wcgR_7_1 S X mG_576 dX2_findMain_18 ?_
  refine wcgI_7 (v := r11) S X mG_307 rfl dX2_findMain_21 ?_
  refine lv_iconst (v := (-1)) hx hb dX2_findMain_24 (by decide) ?_
  refine lv_icmp_eq (tgt := 46) hx hb dX2_findMain_25 (by decide) (fun c25 => ?_) (fun c25 => ?_)
  · have hg := (if_pos c25).symm.trans hg
    exact w_X2_findMain_b46 S hr hk hR X (lv_sub hl [0] rfl) hg
  · have hg := (if_neg c25).symm.trans hg
    refine lv_aload_n hx hb dX2_findMain_28 rfl (lv_at hl 0 rfl) ?_
    refine wcgR_7_1 S X mG_576 dX2_findMain_29 ?_
    refine wcgR_2_7 S X mG_312 dX2_findMain_32 ?_
    refine lv_aload_n hx hb dX2_findMain_35 rfl (lv_at hl 0 rfl) ?_
    refine wcgR_7_1 S X mG_576 dX2_findMain_36 ?_
    refine wcgI_7 (v := r11) S X mG_307 rfl dX2_findMain_39 ?_
    obtain ⟨hi42, hg⟩ := gd_some hg
    refine wclA_3 (v := (xA τ11 3 r11)) S X hi42 rfl dX2_findMain_42 ?_
    refine lv_if_le (tgt := 53) hx hb dX2_findMain_43 (by decide) (fun c43 => ?_) (fun c43 => ?_)
    · have hg := (if_pos c43).symm.trans hg
      obtain ⟨-, rfl⟩ := fin_some hg
      exact gr_v S hr hk X dX2_findMain_53
    · have hg := (if_neg c43).symm.trans hg
      exact w_X2_findMain_b46 S hr hk hR X (lv_sub hl [0] rfl) hg
end MX2_findMain
set_option maxRecDepth 100000 in
theorem k2_X2_findMain (l : Launch) (dC : Nat → ClassId) (dI : Nat → Nat → Nat) {ak : Nat → Nat} (ad : Nat → Nat) (kc : Nat → ClassId) (sv : Value) {σ τ : S5}  {r : Unit} (hg : f_X2_findMain  σ = some (r, τ)) (sz : Nat) : Met l yX2_findMain (Cond.code yX2_findMain cX2_findMain 1 none :: uG) { frames := 1, cells := 0, slots := 0, locals := 23 } (gPc (dC, dI) (tC kc) (wC ad kc sv) (zC ak) [.ref (ad 7)] σ sz) (gQv (dC, dI) (tC kc) (wC ad kc sv) (va_A (wC ad kc sv σ) sz) r τ) 0 0 (va_A (wC ad kc sv σ) sz) :=
  g_start (by decide) (Nat.le_of_ble_eq_true rfl) (fun p e s m below meth c ls S hr hk X hl => w_X2_findMain S hr hk ⟨Nat.le_refl _, Nat.le_refl _⟩ X hl hg)
section MX2_numberVariables
variable {p : Program} {l : Launch} {e : Env} {R : Room} {s : State} {m : MethodId} {args : Array Value} {below : List Frame} {meth : Method} {c : Code} {dC : Nat → ClassId} {dI : Nat → Nat → Nat} {ak : Nat → Nat} {A : Nat → Prop} {ad : Nat → Nat} {kc : Nat → ClassId} {sv : Value} {r : Unit} {τ : S5}
set_option maxHeartbeats 4000000 in
set_option maxRecDepth 100000 in
theorem w_X2_numberVariables_b144 {σ : S5} {rec65 : Int32 → S5 → Option (Unit × S5)} {v1 : Int32} {H : Heap} {locs : List Loc} {ls : Array Slot} (S : CallFix p m c cX2_numberVariables 3 s args uG RX2) (hr : meth.sig.returnType = none) (hk : meth.locks = false) (hR : 1 ≤ R.frames ∧ 21 ≤ R.locals)
    (hrec65 : ∀ (v1 : Int32) (σ : S5) (H : Heap) (locs : List Loc) (ls : Array Slot), gX (dC, dI) (tC kc) (wC ad kc sv) (zC ak) A s σ H locs → lv_has ls 3 [(0, .ref (ad 7)), (1, .int v1)] → rec65 v1 σ = some (r, τ) → W p l e R s m args below meth c H locs 0 0 (MQ below (gQv (dC, dI) (tC kc) (wC ad kc sv) A r τ) args s 0 0 A) (F0 m 65 ls []))
    (X : gX (dC, dI) (tC kc) (wC ad kc sv) (zC ak) A s σ H locs) (hl : lv_has ls 3 [(0, .ref (ad 7)), (1, .int v1)]) (hg : f_X2_numberVariables_b144 rec65 v1 σ = some (r, τ)) : W p l e R s m args below meth c H locs 0 0 (MQ below (gQv (dC, dI) (tC kc) (wC ad kc sv) A r τ) args s 0 0 A) (F0 m 144 ls []) := by
  have hx := S.1
  have hb := S.2.1
  have hown := S.2.2.2.1
  have hu := S.2.2.2.2
  unfold f_X2_numberVariables_b144 at hg
  refine lv_iinc (v := (v1 + 1)) (lv' := [(1, .int (v1 + 1)), (0, .ref (ad 7))]) hx hb dX2_numberVariables_144 hl (k := 1) rfl (by rfl) (by decide) rfl (fun ls hl => ?_)
  refine lv_goto (tgt := 65) hx hb dX2_numberVariables_147 (by decide) ?_
  exact hrec65 _ _ _ _ _ X (lv_sub hl [1, 0] rfl) hg
set_option maxHeartbeats 4000000 in
set_option maxRecDepth 100000 in
theorem w_X2_numberVariables_B65 {σ : S5} {rec65 : Int32 → S5 → Option (Unit × S5)} {v1 : Int32} {H : Heap} {locs : List Loc} {ls : Array Slot} (S : CallFix p m c cX2_numberVariables 3 s args uG RX2) (hr : meth.sig.returnType = none) (hk : meth.locks = false) (hR : 1 ≤ R.frames ∧ 21 ≤ R.locals)
    (hrec65 : ∀ (v1 : Int32) (σ : S5) (H : Heap) (locs : List Loc) (ls : Array Slot), gX (dC, dI) (tC kc) (wC ad kc sv) (zC ak) A s σ H locs → lv_has ls 3 [(0, .ref (ad 7)), (1, .int v1)] → rec65 v1 σ = some (r, τ) → W p l e R s m args below meth c H locs 0 0 (MQ below (gQv (dC, dI) (tC kc) (wC ad kc sv) A r τ) args s 0 0 A) (F0 m 65 ls []))
    (X : gX (dC, dI) (tC kc) (wC ad kc sv) (zC ak) A s σ H locs) (hl : lv_has ls 3 [(0, .ref (ad 7)), (1, .int v1)]) (hg : f_X2_numberVariables_B65 rec65 v1 σ = some (r, τ)) : W p l e R s m args below meth c H locs 0 0 (MQ below (gQv (dC, dI) (tC kc) (wC ad kc sv) A r τ) args s 0 0 A) (F0 m 65 ls []) := by
  have hx := S.1
  have hb := S.2.1
  have hown := S.2.2.2.1
  have hu := S.2.2.2.2
  unfold f_X2_numberVariables_B65 at hg
  refine lv_iload_n hx hb dX2_numberVariables_65 rfl (lv_at hl 1 rfl) ?_
  refine lv_aload_n hx hb dX2_numberVariables_66 rfl (lv_at hl 0 rfl) ?_
  refine wcgR_7_2 S X mG_577 dX2_numberVariables_67 ?_
  refine wcgI_9 (v := (gI σ 9)) S X mG_459 rfl dX2_numberVariables_70 ?_
  refine lv_icmp_ge (tgt := 150) hx hb dX2_numberVariables_73 (by decide) (fun c73 => ?_) (fun c73 => ?_)
  · have hg := (if_pos c73).symm.trans hg
    obtain ⟨-, rfl⟩ := fin_some hg
    exact gr_v S hr hk X dX2_numberVariables_150
  · have hg := (if_neg c73).symm.trans hg
    refine lv_aload_n hx hb dX2_numberVariables_76 rfl (lv_at hl 0 rfl) ?_
    refine wcgR_7_2 S X mG_577 dX2_numberVariables_77 ?_
    refine lv_iload_n hx hb dX2_numberVariables_80 rfl (lv_at hl 1 rfl) ?_
    obtain ⟨r81, τ81, hq81, hg⟩ := bd_some hg
    refine gc_Vi (As := [.int v1]) (rest := []) (q0 := 4) (ci := 9) S X (k2_X6_owns l dC dI ad kc sv hq81 H.size) cw_X6_owns mG_1217 rfl rfl rfl rfl rfl hl.1 (Nat.le_of_ble_eq_true rfl) dX2_numberVariables_81 ⟨by omega, by omega⟩ (fun H locs X => ?_)
    refine lv_if_ne (tgt := 144) hx hb dX2_numberVariables_84 (by decide) (fun c84 => ?_) (fun c84 => ?_)
    · have hg := (if_neg c84).symm.trans hg
      exact w_X2_numberVariables_b144 S hr hk hR hrec65 X (lv_sub hl [0, 1] rfl) hg
    · have hg := (if_pos c84).symm.trans hg
      refine lv_aload_n hx hb dX2_numberVariables_87 rfl (lv_at hl 0 rfl) ?_
      refine wcgR_7_2 S X mG_577 dX2_numberVariables_88 ?_
      refine wcgR_4_7 S X mG_457 dX2_numberVariables_91 ?_
      refine lv_aload_n hx hb dX2_numberVariables_94 rfl (lv_at hl 0 rfl) ?_
      refine wcgR_7_2 S X mG_577 dX2_numberVariables_95 ?_
      refine wcgR_4_3 S X mG_448 dX2_numberVariables_98 ?_
      refine lv_iload_n hx hb dX2_numberVariables_101 rfl (lv_at hl 1 rfl) ?_
      obtain ⟨hi102, hg⟩ := gd_some hg
      refine wclA_22 (v := (xA τ81 22 v1)) S X hi102 rfl dX2_numberVariables_102 ?_
      obtain ⟨hi103, hg⟩ := gd_some hg
      refine wclA_26 (v := (xA τ81 26 (xA τ81 22 v1))) S X hi103 rfl dX2_numberVariables_103 ?_
      refine lv_istore_n (lv' := [(2, .int (xA τ81 26 (xA τ81 22 v1))), (0, .ref (ad 7)), (1, .int v1)]) hx hb dX2_numberVariables_104 rfl hl (by decide) rfl (fun ls hl => ?_)
      refine lv_aload_n hx hb dX2_numberVariables_105 rfl (lv_at hl 1 rfl) ?_
      refine wcgR_7_2 S X mG_577 dX2_numberVariables_106 ?_
      refine wcgR_4_6 S X mG_455 dX2_numberVariables_109 ?_
      refine lv_iload_n hx hb dX2_numberVariables_112 rfl (lv_at hl 2 rfl) ?_
      refine lv_aload_n hx hb dX2_numberVariables_113 rfl (lv_at hl 1 rfl) ?_
      refine wcgR_7_1 S X mG_576 dX2_numberVariables_114 ?_
      refine wcgR_2_10 S X mG_321 dX2_numberVariables_117 ?_
      refine lv_iload_n hx hb dX2_numberVariables_120 rfl (lv_at hl 0 rfl) ?_
      obtain ⟨hi121, hg⟩ := gd_some hg
      refine wclA_6 (v := (xA τ81 6 (xA τ81 26 (xA τ81 22 v1)))) S X hi121 rfl dX2_numberVariables_121 ?_
      obtain ⟨hi122, hg⟩ := gd_some hg
      refine wcsA_25 S X hi122 dX2_numberVariables_122 (fun H locs X => ?_)
      refine lv_aload_n hx hb dX2_numberVariables_123 rfl (lv_at hl 1 rfl) ?_
      refine wcgR_7_1 S X mG_576 dX2_numberVariables_124 ?_
      refine wcgR_2_10 S X mG_321 dX2_numberVariables_127 ?_
      refine lv_iload_n hx hb dX2_numberVariables_130 rfl (lv_at hl 0 rfl) ?_
      refine lv_dup2_11 hx hb dX2_numberVariables_131 rfl rfl ?_
      obtain ⟨hi132, hg⟩ := gd_some hg
      refine wclA_6 (v := (xA τ81 6 (xA τ81 26 (xA τ81 22 v1)))) S X hi132 rfl dX2_numberVariables_132 ?_
      refine lv_aload_n hx hb dX2_numberVariables_133 rfl (lv_at hl 1 rfl) ?_
      refine wcgR_7_2 S X mG_577 dX2_numberVariables_134 ?_
      refine wcgR_4_1 S X mG_443 dX2_numberVariables_137 ?_
      refine lv_iload_n hx hb dX2_numberVariables_140 rfl (lv_at hl 2 rfl) ?_
      obtain ⟨hi141, hg⟩ := gd_some hg
      refine wclA_20 (v := (xA τ81 20 v1)) S X hi141 rfl dX2_numberVariables_141 ?_
      refine lv_iadd hx hb dX2_numberVariables_142 ?_
      obtain ⟨hi143, hg⟩ := gd_some hg
      refine wcsA_6 S X hi143 dX2_numberVariables_143 (fun H locs X => ?_)
      exact w_X2_numberVariables_b144 S hr hk hR hrec65 X (lv_sub hl [1, 2] rfl) hg
set_option maxHeartbeats 4000000 in
set_option maxRecDepth 100000 in
theorem w_X2_numberVariables_L65 (S : CallFix p m c cX2_numberVariables 3 s args uG RX2) (hr : meth.sig.returnType = none) (hk : meth.locks = false) (hR : 1 ≤ R.frames ∧ 21 ≤ R.locals) : ∀ (n : Nat) (v1 : Int32) (σ : S5) (H : Heap) (locs : List Loc) (ls : Array Slot), gX (dC, dI) (tC kc) (wC ad kc sv) (zC ak) A s σ H locs → lv_has ls 3 [(0, .ref (ad 7)), (1, .int v1)] → f_X2_numberVariables_L65  n v1 σ = some (r, τ) → W p l e R s m args below meth c H locs 0 0 (MQ below (gQv (dC, dI) (tC kc) (wC ad kc sv) A r τ) args s 0 0 A) (F0 m 65 ls []) := by
  intro n
  induction n with
  | zero => intro v1 σ H locs ls X hl hg; cases hg
  | succ n ih => intro v1 σ H locs ls X hl hg; exact w_X2_numberVariables_B65 S hr hk hR ih X hl hg
set_option maxHeartbeats 4000000 in
set_option maxRecDepth 100000 in
theorem w_X2_numberVariables_B2 {σ : S5} {rec2 : Int32 → S5 → Option (Unit × S5)} {v1 : Int32} {H : Heap} {locs : List Loc} {ls : Array Slot} (S : CallFix p m c cX2_numberVariables 3 s args uG RX2) (hr : meth.sig.returnType = none) (hk : meth.locks = false) (hR : 1 ≤ R.frames ∧ 21 ≤ R.locals)
    (hrec2 : ∀ (v1 : Int32) (σ : S5) (H : Heap) (locs : List Loc) (ls : Array Slot), gX (dC, dI) (tC kc) (wC ad kc sv) (zC ak) A s σ H locs → lv_has ls 3 [(0, .ref (ad 7)), (1, .int v1)] → rec2 v1 σ = some (r, τ) → W p l e R s m args below meth c H locs 0 0 (MQ below (gQv (dC, dI) (tC kc) (wC ad kc sv) A r τ) args s 0 0 A) (F0 m 2 ls []))
    (X : gX (dC, dI) (tC kc) (wC ad kc sv) (zC ak) A s σ H locs) (hl : lv_has ls 3 [(0, .ref (ad 7)), (1, .int v1)]) (hg : f_X2_numberVariables_B2 rec2 v1 σ = some (r, τ)) : W p l e R s m args below meth c H locs 0 0 (MQ below (gQv (dC, dI) (tC kc) (wC ad kc sv) A r τ) args s 0 0 A) (F0 m 2 ls []) := by
  have hx := S.1
  have hb := S.2.1
  have hown := S.2.2.2.1
  have hu := S.2.2.2.2
  unfold f_X2_numberVariables_B2 at hg
  refine lv_iload_n hx hb dX2_numberVariables_2 rfl (lv_at hl 1 rfl) ?_
  refine lv_aload_n hx hb dX2_numberVariables_3 rfl (lv_at hl 0 rfl) ?_
  refine wcgR_7_1 S X mG_576 dX2_numberVariables_4 ?_
  refine wcgI_6 (v := (gI σ 6)) S X mG_302 rfl dX2_numberVariables_7 ?_
  refine lv_icmp_ge (tgt := 63) hx hb dX2_numberVariables_10 (by decide) (fun c10 => ?_) (fun c10 => ?_)
  · have hg := (if_pos c10).symm.trans hg
    refine lv_iconst (v := 0) hx hb dX2_numberVariables_63 (by decide) ?_
    refine lv_istore_n (lv' := [(1, .int 0), (0, .ref (ad 7))]) hx hb dX2_numberVariables_64 rfl hl (by decide) rfl (fun ls hl => ?_)
    exact w_X2_numberVariables_L65 S hr hk hR _ _ _ _ _ _ X (lv_sub hl [1, 0] rfl) hg
  · have hg := (if_neg c10).symm.trans hg
    refine lv_aload_n hx hb dX2_numberVariables_13 rfl (lv_at hl 0 rfl) ?_
    refine wcgR_7_2 S X mG_577 dX2_numberVariables_14 ?_
    refine wcgR_4_6 S X mG_455 dX2_numberVariables_17 ?_
    refine lv_aload_n hx hb dX2_numberVariables_20 rfl (lv_at hl 0 rfl) ?_
    refine wcgR_7_1 S X mG_576 dX2_numberVariables_21 ?_
    refine wcgR_2_12 S X mG_328 dX2_numberVariables_24 ?_
    refine lv_iload_n hx hb dX2_numberVariables_27 rfl (lv_at hl 1 rfl) ?_
    obtain ⟨hi28, hg⟩ := gd_some hg
    refine wclA_8 (v := (xA σ 8 v1)) S X hi28 rfl dX2_numberVariables_28 ?_
    refine lv_aload_n hx hb dX2_numberVariables_29 rfl (lv_at hl 0 rfl) ?_
    refine wcgR_7_1 S X mG_576 dX2_numberVariables_30 ?_
    refine wcgR_2_8 S X mG_315 dX2_numberVariables_33 ?_
    refine lv_iload_n hx hb dX2_numberVariables_36 rfl (lv_at hl 1 rfl) ?_
    obtain ⟨hi37, hg⟩ := gd_some hg
    refine wclA_4 (v := (xA σ 4 v1)) S X hi37 rfl dX2_numberVariables_37 ?_
    obtain ⟨hi38, hg⟩ := gd_some hg
    refine wcsA_25 S X hi38 dX2_numberVariables_38 (fun H locs X => ?_)
    refine lv_aload_n hx hb dX2_numberVariables_39 rfl (lv_at hl 0 rfl) ?_
    refine wcgR_7_1 S X mG_576 dX2_numberVariables_40 ?_
    refine wcgR_2_10 S X mG_321 dX2_numberVariables_43 ?_
    refine lv_iload_n hx hb dX2_numberVariables_46 rfl (lv_at hl 1 rfl) ?_
    refine lv_aload_n hx hb dX2_numberVariables_47 rfl (lv_at hl 0 rfl) ?_
    refine wcgR_7_1 S X mG_576 dX2_numberVariables_48 ?_
    refine wcgR_2_7 S X mG_312 dX2_numberVariables_51 ?_
    refine lv_iload_n hx hb dX2_numberVariables_54 rfl (lv_at hl 1 rfl) ?_
    obtain ⟨hi55, hg⟩ := gd_some hg
    refine wclA_3 (v := (xA σ 3 v1)) S X hi55 rfl dX2_numberVariables_55 ?_
    obtain ⟨hi56, hg⟩ := gd_some hg
    refine wcsA_6 S X hi56 dX2_numberVariables_56 (fun H locs X => ?_)
    refine lv_iinc (v := (v1 + 1)) (lv' := [(1, .int (v1 + 1)), (0, .ref (ad 7))]) hx hb dX2_numberVariables_57 hl (k := 1) rfl (by rfl) (by decide) rfl (fun ls hl => ?_)
    refine lv_goto (tgt := 2) hx hb dX2_numberVariables_60 (by decide) ?_
    exact hrec2 _ _ _ _ _ X (lv_sub hl [1, 0] rfl) hg
set_option maxHeartbeats 4000000 in
set_option maxRecDepth 100000 in
theorem w_X2_numberVariables_L2 (S : CallFix p m c cX2_numberVariables 3 s args uG RX2) (hr : meth.sig.returnType = none) (hk : meth.locks = false) (hR : 1 ≤ R.frames ∧ 21 ≤ R.locals) : ∀ (n : Nat) (v1 : Int32) (σ : S5) (H : Heap) (locs : List Loc) (ls : Array Slot), gX (dC, dI) (tC kc) (wC ad kc sv) (zC ak) A s σ H locs → lv_has ls 3 [(0, .ref (ad 7)), (1, .int v1)] → f_X2_numberVariables_L2  n v1 σ = some (r, τ) → W p l e R s m args below meth c H locs 0 0 (MQ below (gQv (dC, dI) (tC kc) (wC ad kc sv) A r τ) args s 0 0 A) (F0 m 2 ls []) := by
  intro n
  induction n with
  | zero => intro v1 σ H locs ls X hl hg; cases hg
  | succ n ih => intro v1 σ H locs ls X hl hg; exact w_X2_numberVariables_B2 S hr hk hR ih X hl hg
set_option maxHeartbeats 4000000 in
set_option maxRecDepth 100000 in
theorem w_X2_numberVariables {σ : S5}  {H : Heap} {locs : List Loc} {ls : Array Slot} (S : CallFix p m c cX2_numberVariables 3 s args uG RX2) (hr : meth.sig.returnType = none) (hk : meth.locks = false) (hR : 1 ≤ R.frames ∧ 21 ≤ R.locals)
    (X : gX (dC, dI) (tC kc) (wC ad kc sv) (zC ak) A s σ H locs) (hl : lv_has ls 3 [(0, .ref (ad 7))]) (hg : f_X2_numberVariables  σ = some (r, τ)) : W p l e R s m args below meth c H locs 0 0 (MQ below (gQv (dC, dI) (tC kc) (wC ad kc sv) A r τ) args s 0 0 A) (F0 m 0 ls []) := by
  have hx := S.1
  have hb := S.2.1
  have hown := S.2.2.2.1
  have hu := S.2.2.2.2
  unfold f_X2_numberVariables at hg
  refine lv_iconst (v := 0) hx hb dX2_numberVariables_0 (by decide) ?_
  refine lv_istore_n (lv' := [(1, .int 0), (0, .ref (ad 7))]) hx hb dX2_numberVariables_1 rfl hl (by decide) rfl (fun ls hl => ?_)
  exact w_X2_numberVariables_L2 S hr hk hR _ _ _ _ _ _ X (lv_sub hl [1, 0] rfl) hg
end MX2_numberVariables
set_option maxRecDepth 100000 in
theorem k2_X2_numberVariables (l : Launch) (dC : Nat → ClassId) (dI : Nat → Nat → Nat) {ak : Nat → Nat} (ad : Nat → Nat) (kc : Nat → ClassId) (sv : Value) {σ τ : S5}  {r : Unit} (hg : f_X2_numberVariables  σ = some (r, τ)) (sz : Nat) : Met l yX2_numberVariables (Cond.code yX2_numberVariables cX2_numberVariables 3 none :: uG) { frames := 1, cells := 0, slots := 0, locals := 21 } (gPc (dC, dI) (tC kc) (wC ad kc sv) (zC ak) [.ref (ad 7)] σ sz) (gQv (dC, dI) (tC kc) (wC ad kc sv) (va_A (wC ad kc sv σ) sz) r τ) 0 0 (va_A (wC ad kc sv σ) sz) :=
  g_start (by decide) (Nat.le_of_ble_eq_true rfl) (fun p e s m below meth c ls S hr hk X hl => w_X2_numberVariables S hr hk ⟨Nat.le_refl _, Nat.le_refl _⟩ X hl hg)
section MX2_numberIn
variable {p : Program} {l : Launch} {e : Env} {R : Room} {s : State} {m : MethodId} {args : Array Value} {below : List Frame} {meth : Method} {c : Code} {dC : Nat → ClassId} {dI : Nat → Nat → Nat} {ak : Nat → Nat} {A : Nat → Prop} {ad : Nat → Nat} {kc : Nat → ClassId} {sv : Value} {r : Int32} {τ : S5}
set_option maxHeartbeats 4000000 in
set_option maxRecDepth 100000 in
theorem w_X2_numberIn {σ : S5} {a1 : Int32} {a2 : Int32} {H : Heap} {locs : List Loc} {ls : Array Slot} (S : CallFix p m c cX2_numberIn 4 s args uG RX2) (hr : meth.sig.returnType = (some .int)) (hk : meth.locks = false) (hR : 1 ≤ R.frames ∧ 23 ≤ R.locals)
    (X : gX (dC, dI) (tC kc) (wC ad kc sv) (zC ak) A s σ H locs) (hl : lv_has ls 4 [(0, .ref (ad 7)), (1, .int a1), (2, .int a2)]) (hg : f_X2_numberIn a1 a2 σ = some (r, τ)) : W p l e R s m args below meth c H locs 0 0 (MQ below (gQi (dC, dI) (tC kc) (wC ad kc sv) A r τ) args s 0 0 A) (F0 m 0 ls []) := by
  have hx := S.1
  have hb := S.2.1
  have hown := S.2.2.2.1
  have hu := S.2.2.2.2
  unfold f_X2_numberIn at hg
  refine lv_iload_n hx hb dX2_numberIn_0 rfl (lv_at hl 2 rfl) ?_
  refine lv_iconst (v := 5) hx hb dX2_numberIn_1 (by decide) ?_
  refine lv_idiv hx hb dX2_numberIn_2 (by decide) ?_
  refine lv_istore_n (lv' := [(3, .int (a2 / 5)), (0, .ref (ad 7)), (1, .int a1), (2, .int a2)]) hx hb dX2_numberIn_3 rfl hl (by decide) rfl (fun ls hl => ?_)
  refine lv_aload_n hx hb dX2_numberIn_4 rfl (lv_at hl 1 rfl) ?_
  refine wcgR_7_2 S X mG_577 dX2_numberIn_5 ?_
  refine wcgR_4_3 S X mG_448 dX2_numberIn_8 ?_
  refine lv_iload_n hx hb dX2_numberIn_11 rfl (lv_at hl 0 rfl) ?_
  obtain ⟨hi12, hg⟩ := gd_some hg
  refine wclA_22 (v := (xA σ 22 (a2 / 5))) S X hi12 rfl dX2_numberIn_12 ?_
  refine lv_aload_n hx hb dX2_numberIn_13 rfl (lv_at hl 1 rfl) ?_
  refine wcgR_7_1 S X mG_576 dX2_numberIn_14 ?_
  refine wcgR_2_12 S X mG_328 dX2_numberIn_17 ?_
  refine lv_iload_n hx hb dX2_numberIn_20 rfl (lv_at hl 2 rfl) ?_
  obtain ⟨hi21, hg⟩ := gd_some hg
  refine wclA_8 (v := (xA σ 8 a1)) S X hi21 rfl dX2_numberIn_21 ?_
  refine lv_icmp_ne (tgt := 39) hx hb dX2_numberIn_22 (by decide) (fun c22 => ?_) (fun c22 => ?_)
  · have hg := (if_neg c22).symm.trans hg
    refine lv_iconst (v := 0) hx hb dX2_numberIn_39 (by decide) ?_
    refine lv_aload_n hx hb dX2_numberIn_40 rfl (lv_at hl 1 rfl) ?_
    refine lv_iload_n hx hb dX2_numberIn_41 rfl (lv_at hl 2 rfl) ?_
    refine lv_iload_n hx hb dX2_numberIn_42 rfl (lv_at hl 3 rfl) ?_
    obtain ⟨r43, τ43, hq43, hg⟩ := bd_some hg
    refine gc_Vi (As := [.int a1, .int a2]) (rest := [.int 0]) (q0 := 7) (ci := 5) S X (k2_X2_freeIndex l dC dI ad kc sv hq43 H.size) cw_X2_freeIndex mG_1247 rfl rfl rfl rfl rfl hl.1 (Nat.le_of_ble_eq_true rfl) dX2_numberIn_43 ⟨by omega, by omega⟩ (fun H locs X => ?_)
    refine va_mmax (R := R) (rest := []) (x := 0) (y := r43) hx hb (S.2.2.1.trans hl.1.symm) hown (hu _ mG_1276) (hu _ mG_993) (hu _ mG_235) (hu _ mG_994) (by omega) (show 0 + 13 ≤ R.locals by omega) (Nat.zero_le _) (Nat.zero_le _) dX2_numberIn_46 ?_
    obtain ⟨rfl, rfl⟩ := fin_some hg
    exact gr_i S hr hk X dX2_numberIn_49
  · have hg := (if_pos c22).symm.trans hg
    refine lv_aload_n hx hb dX2_numberIn_25 rfl (lv_at hl 1 rfl) ?_
    refine wcgR_7_2 S X mG_577 dX2_numberIn_26 ?_
    refine wcgR_4_6 S X mG_455 dX2_numberIn_29 ?_
    refine lv_iload_n hx hb dX2_numberIn_32 rfl (lv_at hl 0 rfl) ?_
    obtain ⟨hi33, hg⟩ := gd_some hg
    refine wclA_25 (v := (xA σ 25 (a2 / 5))) S X hi33 rfl dX2_numberIn_33 ?_
    refine lv_iload_n hx hb dX2_numberIn_34 rfl (lv_at hl 3 rfl) ?_
    refine lv_iconst (v := 5) hx hb dX2_numberIn_35 (by decide) ?_
    refine lv_irem hx hb dX2_numberIn_36 (by decide) ?_
    refine lv_iadd hx hb dX2_numberIn_37 ?_
    obtain ⟨rfl, rfl⟩ := fin_some hg
    exact gr_i S hr hk X dX2_numberIn_38
end MX2_numberIn
set_option maxRecDepth 100000 in
theorem k2_X2_numberIn (l : Launch) (dC : Nat → ClassId) (dI : Nat → Nat → Nat) {ak : Nat → Nat} (ad : Nat → Nat) (kc : Nat → ClassId) (sv : Value) {σ τ : S5} {a1 : Int32} {a2 : Int32} {r : Int32} (hg : f_X2_numberIn a1 a2 σ = some (r, τ)) (sz : Nat) : Met l yX2_numberIn (Cond.code yX2_numberIn cX2_numberIn 4 (some .int) :: uG) { frames := 1, cells := 0, slots := 0, locals := 23 } (gPc (dC, dI) (tC kc) (wC ad kc sv) (zC ak) [.ref (ad 7), .int a1, .int a2] σ sz) (gQi (dC, dI) (tC kc) (wC ad kc sv) (va_A (wC ad kc sv σ) sz) r τ) 0 0 (va_A (wC ad kc sv σ) sz) :=
  g_start (by decide) (Nat.le_of_ble_eq_true rfl) (fun p e s m below meth c ls S hr hk X hl => w_X2_numberIn S hr hk ⟨Nat.le_refl _, Nat.le_refl _⟩ X hl hg)
section MX2_plantUses
variable {p : Program} {l : Launch} {e : Env} {R : Room} {s : State} {m : MethodId} {args : Array Value} {below : List Frame} {meth : Method} {c : Code} {dC : Nat → ClassId} {dI : Nat → Nat → Nat} {ak : Nat → Nat} {A : Nat → Prop} {ad : Nat → Nat} {kc : Nat → ClassId} {sv : Value} {r : Unit} {τ : S5}
set_option maxHeartbeats 4000000 in
set_option maxRecDepth 100000 in
theorem w_X2_plantUses_b96 {σ : S5} {rec2 : Int32 → S5 → Option (Unit × S5)} {v1 : Int32} {H : Heap} {locs : List Loc} {ls : Array Slot} (S : CallFix p m c cX2_plantUses 5 s args uG RX2) (hr : meth.sig.returnType = none) (hk : meth.locks = false) (hR : 2 ≤ R.frames ∧ 46 ≤ R.locals)
    (hrec2 : ∀ (v1 : Int32) (σ : S5) (H : Heap) (locs : List Loc) (ls : Array Slot), gX (dC, dI) (tC kc) (wC ad kc sv) (zC ak) A s σ H locs → lv_has ls 5 [(0, .ref (ad 7)), (1, .int v1)] → rec2 v1 σ = some (r, τ) → W p l e R s m args below meth c H locs 0 0 (MQ below (gQv (dC, dI) (tC kc) (wC ad kc sv) A r τ) args s 0 0 A) (F0 m 2 ls []))
    (X : gX (dC, dI) (tC kc) (wC ad kc sv) (zC ak) A s σ H locs) (hl : lv_has ls 5 [(0, .ref (ad 7)), (1, .int v1)]) (hg : f_X2_plantUses_b96 rec2 v1 σ = some (r, τ)) : W p l e R s m args below meth c H locs 0 0 (MQ below (gQv (dC, dI) (tC kc) (wC ad kc sv) A r τ) args s 0 0 A) (F0 m 96 ls []) := by
  have hx := S.1
  have hb := S.2.1
  have hown := S.2.2.2.1
  have hu := S.2.2.2.2
  unfold f_X2_plantUses_b96 at hg
  refine lv_iinc (v := (v1 + 1)) (lv' := [(1, .int (v1 + 1)), (0, .ref (ad 7))]) hx hb dX2_plantUses_96 hl (k := 1) rfl (by rfl) (by decide) rfl (fun ls hl => ?_)
  refine lv_goto (tgt := 2) hx hb dX2_plantUses_99 (by decide) ?_
  exact hrec2 _ _ _ _ _ X (lv_sub hl [1, 0] rfl) hg
set_option maxHeartbeats 4000000 in
set_option maxRecDepth 100000 in
theorem w_X2_plantUses_B2 {σ : S5} {rec2 : Int32 → S5 → Option (Unit × S5)} {v1 : Int32} {H : Heap} {locs : List Loc} {ls : Array Slot} (S : CallFix p m c cX2_plantUses 5 s args uG RX2) (hr : meth.sig.returnType = none) (hk : meth.locks = false) (hR : 2 ≤ R.frames ∧ 46 ≤ R.locals)
    (hrec2 : ∀ (v1 : Int32) (σ : S5) (H : Heap) (locs : List Loc) (ls : Array Slot), gX (dC, dI) (tC kc) (wC ad kc sv) (zC ak) A s σ H locs → lv_has ls 5 [(0, .ref (ad 7)), (1, .int v1)] → rec2 v1 σ = some (r, τ) → W p l e R s m args below meth c H locs 0 0 (MQ below (gQv (dC, dI) (tC kc) (wC ad kc sv) A r τ) args s 0 0 A) (F0 m 2 ls []))
    (X : gX (dC, dI) (tC kc) (wC ad kc sv) (zC ak) A s σ H locs) (hl : lv_has ls 5 [(0, .ref (ad 7)), (1, .int v1)]) (hg : f_X2_plantUses_B2 rec2 v1 σ = some (r, τ)) : W p l e R s m args below meth c H locs 0 0 (MQ below (gQv (dC, dI) (tC kc) (wC ad kc sv) A r τ) args s 0 0 A) (F0 m 2 ls []) := by
  have hx := S.1
  have hb := S.2.1
  have hown := S.2.2.2.1
  have hu := S.2.2.2.2
  unfold f_X2_plantUses_B2 at hg
  refine lv_iload_n hx hb dX2_plantUses_2 rfl (lv_at hl 1 rfl) ?_
  refine lv_aload_n hx hb dX2_plantUses_3 rfl (lv_at hl 0 rfl) ?_
  refine wcgR_7_2 S X mG_577 dX2_plantUses_4 ?_
  refine wcgI_10 (v := (gI σ 10)) S X mG_471 rfl dX2_plantUses_7 ?_
  refine lv_icmp_ge (tgt := 102) hx hb dX2_plantUses_10 (by decide) (fun c10 => ?_) (fun c10 => ?_)
  · have hg := (if_pos c10).symm.trans hg
    obtain ⟨-, rfl⟩ := fin_some hg
    exact gr_v S hr hk X dX2_plantUses_102
  · have hg := (if_neg c10).symm.trans hg
    refine lv_aload_n hx hb dX2_plantUses_13 rfl (lv_at hl 0 rfl) ?_
    refine wcgR_7_2 S X mG_577 dX2_plantUses_14 ?_
    refine wcgR_4_13 S X mG_469 dX2_plantUses_17 ?_
    refine lv_iload_n hx hb dX2_plantUses_20 rfl (lv_at hl 1 rfl) ?_
    obtain ⟨hi21, hg⟩ := gd_some hg
    refine wclA_30 (v := (xA σ 30 v1)) S X hi21 rfl dX2_plantUses_21 ?_
    refine lv_istore_n (lv' := [(2, .int (xA σ 30 v1)), (0, .ref (ad 7)), (1, .int v1)]) hx hb dX2_plantUses_22 rfl hl (by decide) rfl (fun ls hl => ?_)
    refine lv_aload_n hx hb dX2_plantUses_23 rfl (lv_at hl 1 rfl) ?_
    refine wcgR_7_2 S X mG_577 dX2_plantUses_24 ?_
    refine wcgR_4_12 S X mG_467 dX2_plantUses_27 ?_
    refine lv_iload_n hx hb dX2_plantUses_30 rfl (lv_at hl 2 rfl) ?_
    obtain ⟨hi31, hg⟩ := gd_some hg
    refine wclA_29 (v := (xA σ 29 v1)) S X hi31 rfl dX2_plantUses_31 ?_
    refine lv_istore_n (lv' := [(3, .int (xA σ 29 v1)), (2, .int (xA σ 30 v1)), (0, .ref (ad 7)), (1, .int v1)]) hx hb dX2_plantUses_32 rfl hl (by decide) rfl (fun ls hl => ?_)
    refine lv_iload_n hx hb dX2_plantUses_33 rfl (lv_at hl 1 rfl) ?_
    refine lv_if_ge (tgt := 53) hx hb dX2_plantUses_34 (by decide) (fun c34 => ?_) (fun c34 => ?_)
    · have hg := (if_pos c34).symm.trans hg
      refine lv_aload_n hx hb dX2_plantUses_53 rfl (lv_at hl 2 rfl) ?_
      refine wcgR_7_2 S X mG_577 dX2_plantUses_54 ?_
      refine wcgR_4_7 S X mG_457 dX2_plantUses_57 ?_
      refine lv_aload_n hx hb dX2_plantUses_60 rfl (lv_at hl 2 rfl) ?_
      refine wcgR_7_2 S X mG_577 dX2_plantUses_61 ?_
      refine wcgR_4_3 S X mG_448 dX2_plantUses_64 ?_
      refine lv_aload_n hx hb dX2_plantUses_67 rfl (lv_at hl 2 rfl) ?_
      refine wcgR_7_2 S X mG_577 dX2_plantUses_68 ?_
      refine wcgR_4_10 S X mG_463 dX2_plantUses_71 ?_
      refine lv_iload_n hx hb dX2_plantUses_74 rfl (lv_at hl 3 rfl) ?_
      obtain ⟨hi75, hg⟩ := gd_some hg
      refine wclA_27 (v := (xA σ 27 v1)) S X hi75 rfl dX2_plantUses_75 ?_
      obtain ⟨hi76, hg⟩ := gd_some hg
      refine wclA_22 (v := (xA σ 22 (xA σ 27 v1))) S X hi76 rfl dX2_plantUses_76 ?_
      obtain ⟨hi77, hg⟩ := gd_some hg
      refine wclA_26 (v := (xA σ 26 (xA σ 22 (xA σ 27 v1)))) S X hi77 rfl dX2_plantUses_77 ?_
      refine lv_istore (lv' := [(4, .int (xA σ 26 (xA σ 22 (xA σ 27 v1)))), (3, .int (xA σ 29 v1)), (2, .int (xA σ 30 v1)), (0, .ref (ad 7)), (1, .int v1)]) hx hb dX2_plantUses_78 hl (by decide) rfl (fun ls hl => ?_)
      refine lv_aload_n hx hb dX2_plantUses_80 rfl (lv_at hl 3 rfl) ?_
      refine wcgR_7_0 S X mG_575 dX2_plantUses_81 ?_
      refine lv_iload_n hx hb dX2_plantUses_84 rfl (lv_at hl 1 rfl) ?_
      refine lv_iconst (v := 3) hx hb dX2_plantUses_85 (by decide) ?_
      refine lv_aload_n hx hb dX2_plantUses_86 rfl (lv_at hl 3 rfl) ?_
      refine lv_iload hx hb dX2_plantUses_87 (lv_at hl 0 rfl) ?_
      refine lv_iload_n hx hb dX2_plantUses_89 rfl (lv_at hl 2 rfl) ?_
      obtain ⟨r90, τ90, hq90, hg⟩ := bd_some hg
      refine gc_Vi (As := [.int (xA σ 26 (xA σ 22 (xA σ 27 v1))), .int (xA σ 30 v1)]) (rest := [.int 3, .int (xA σ 29 v1), .ref (ad 3)]) (q0 := 7) (ci := 5) S X (k2_X2_numberIn l dC dI ad kc sv hq90 H.size) cw_X2_numberIn mG_1272 rfl rfl rfl rfl rfl hl.1 (Nat.le_of_ble_eq_true rfl) dX2_plantUses_90 ⟨by omega, by omega⟩ (fun H locs X => ?_)
      obtain ⟨r93, τ93, hq93, hg⟩ := bd_some hg
      refine gc_Vv (As := [.int (xA σ 29 v1), .int 3, .int r90]) (rest := []) (q0 := 3) (ci := 12) S X (k2_X9_change l dC dI ad kc sv hq93 H.size) cw_X9_change mG_1268 rfl rfl rfl rfl rfl hl.1 (Nat.le_of_ble_eq_true rfl) dX2_plantUses_93 ⟨by omega, by omega⟩ (fun H locs X => ?_)
      exact w_X2_plantUses_b96 S hr hk hR hrec2 X (lv_sub hl [3, 4] rfl) hg
    · have hg := (if_neg c34).symm.trans hg
      refine lv_aload_n hx hb dX2_plantUses_37 rfl (lv_at hl 2 rfl) ?_
      refine wcgR_7_0 S X mG_575 dX2_plantUses_38 ?_
      refine lv_iload_n hx hb dX2_plantUses_41 rfl (lv_at hl 0 rfl) ?_
      refine lv_iconst (v := 2) hx hb dX2_plantUses_42 (by decide) ?_
      refine lv_bipush (v := (-2)) hx hb dX2_plantUses_43 (by decide) ?_
      refine lv_iload_n hx hb dX2_plantUses_45 rfl (lv_at hl 1 rfl) ?_
      refine lv_isub hx hb dX2_plantUses_46 ?_
      obtain ⟨r47, τ47, hq47, hg⟩ := bd_some hg
      refine gc_Vv (As := [.int (xA σ 29 v1), .int 2, .int ((-2) - (xA σ 30 v1))]) (rest := []) (q0 := 3) (ci := 12) S X (k2_X9_change l dC dI ad kc sv hq47 H.size) cw_X9_change mG_1268 rfl rfl rfl rfl rfl hl.1 (Nat.le_of_ble_eq_true rfl) dX2_plantUses_47 ⟨by omega, by omega⟩ (fun H locs X => ?_)
      refine lv_goto (tgt := 96) hx hb dX2_plantUses_50 (by decide) ?_
      exact w_X2_plantUses_b96 S hr hk hR hrec2 X (lv_sub hl [2, 3] rfl) hg
set_option maxHeartbeats 4000000 in
set_option maxRecDepth 100000 in
theorem w_X2_plantUses_L2 (S : CallFix p m c cX2_plantUses 5 s args uG RX2) (hr : meth.sig.returnType = none) (hk : meth.locks = false) (hR : 2 ≤ R.frames ∧ 46 ≤ R.locals) : ∀ (n : Nat) (v1 : Int32) (σ : S5) (H : Heap) (locs : List Loc) (ls : Array Slot), gX (dC, dI) (tC kc) (wC ad kc sv) (zC ak) A s σ H locs → lv_has ls 5 [(0, .ref (ad 7)), (1, .int v1)] → f_X2_plantUses_L2  n v1 σ = some (r, τ) → W p l e R s m args below meth c H locs 0 0 (MQ below (gQv (dC, dI) (tC kc) (wC ad kc sv) A r τ) args s 0 0 A) (F0 m 2 ls []) := by
  intro n
  induction n with
  | zero => intro v1 σ H locs ls X hl hg; cases hg
  | succ n ih => intro v1 σ H locs ls X hl hg; exact w_X2_plantUses_B2 S hr hk hR ih X hl hg
set_option maxHeartbeats 4000000 in
set_option maxRecDepth 100000 in
theorem w_X2_plantUses {σ : S5}  {H : Heap} {locs : List Loc} {ls : Array Slot} (S : CallFix p m c cX2_plantUses 5 s args uG RX2) (hr : meth.sig.returnType = none) (hk : meth.locks = false) (hR : 2 ≤ R.frames ∧ 46 ≤ R.locals)
    (X : gX (dC, dI) (tC kc) (wC ad kc sv) (zC ak) A s σ H locs) (hl : lv_has ls 5 [(0, .ref (ad 7))]) (hg : f_X2_plantUses  σ = some (r, τ)) : W p l e R s m args below meth c H locs 0 0 (MQ below (gQv (dC, dI) (tC kc) (wC ad kc sv) A r τ) args s 0 0 A) (F0 m 0 ls []) := by
  have hx := S.1
  have hb := S.2.1
  have hown := S.2.2.2.1
  have hu := S.2.2.2.2
  unfold f_X2_plantUses at hg
  refine lv_iconst (v := 0) hx hb dX2_plantUses_0 (by decide) ?_
  refine lv_istore_n (lv' := [(1, .int 0), (0, .ref (ad 7))]) hx hb dX2_plantUses_1 rfl hl (by decide) rfl (fun ls hl => ?_)
  exact w_X2_plantUses_L2 S hr hk hR _ _ _ _ _ _ X (lv_sub hl [1, 0] rfl) hg
end MX2_plantUses
set_option maxRecDepth 100000 in
theorem k2_X2_plantUses (l : Launch) (dC : Nat → ClassId) (dI : Nat → Nat → Nat) {ak : Nat → Nat} (ad : Nat → Nat) (kc : Nat → ClassId) (sv : Value) {σ τ : S5}  {r : Unit} (hg : f_X2_plantUses  σ = some (r, τ)) (sz : Nat) : Met l yX2_plantUses (Cond.code yX2_plantUses cX2_plantUses 5 none :: uG) { frames := 2, cells := 0, slots := 0, locals := 46 } (gPc (dC, dI) (tC kc) (wC ad kc sv) (zC ak) [.ref (ad 7)] σ sz) (gQv (dC, dI) (tC kc) (wC ad kc sv) (va_A (wC ad kc sv σ) sz) r τ) 0 0 (va_A (wC ad kc sv σ) sz) :=
  g_start (by decide) (Nat.le_of_ble_eq_true rfl) (fun p e s m below meth c ls S hr hk X hl => w_X2_plantUses S hr hk ⟨Nat.le_refl _, Nat.le_refl _⟩ X hl hg)
section MX2_plantLeaf
variable {p : Program} {l : Launch} {e : Env} {R : Room} {s : State} {m : MethodId} {args : Array Value} {below : List Frame} {meth : Method} {c : Code} {dC : Nat → ClassId} {dI : Nat → Nat → Nat} {ak : Nat → Nat} {A : Nat → Prop} {ad : Nat → Nat} {kc : Nat → ClassId} {sv : Value} {r : Int32} {τ : S5}
set_option maxHeartbeats 4000000 in
set_option maxRecDepth 100000 in
theorem w_X2_plantLeaf {σ : S5} {a1 : Int32} {a2 : Int32} {H : Heap} {locs : List Loc} {ls : Array Slot} (S : CallFix p m c cX2_plantLeaf 4 s args uG RX2) (hr : meth.sig.returnType = (some .int)) (hk : meth.locks = false) (hR : 2 ≤ R.frames ∧ 46 ≤ R.locals)
    (X : gX (dC, dI) (tC kc) (wC ad kc sv) (zC ak) A s σ H locs) (hl : lv_has ls 4 [(0, .ref (ad 7)), (1, .int a1), (2, .int a2)]) (hg : f_X2_plantLeaf a1 a2 σ = some (r, τ)) : W p l e R s m args below meth c H locs 0 0 (MQ below (gQi (dC, dI) (tC kc) (wC ad kc sv) A r τ) args s 0 0 A) (F0 m 0 ls []) := by
  have hx := S.1
  have hb := S.2.1
  have hown := S.2.2.2.1
  have hu := S.2.2.2.2
  unfold f_X2_plantLeaf at hg
  refine lv_aload_n hx hb dX2_plantLeaf_0 rfl (lv_at hl 0 rfl) ?_
  refine wcgR_7_0 S X mG_575 dX2_plantLeaf_1 ?_
  refine lv_iload_n hx hb dX2_plantLeaf_4 rfl (lv_at hl 1 rfl) ?_
  refine lv_iload_n hx hb dX2_plantLeaf_5 rfl (lv_at hl 2 rfl) ?_
  obtain ⟨r6, τ6, hq6, hg⟩ := bd_some hg
  refine gc_Vi (As := [.int a1, .int a2]) (rest := []) (q0 := 3) (ci := 12) S X (k2_X9_addLeaf l dC dI ad kc sv hq6 H.size) cw_X9_addLeaf mG_1293 rfl rfl rfl rfl rfl hl.1 (Nat.le_of_ble_eq_true rfl) dX2_plantLeaf_6 ⟨by omega, by omega⟩ (fun H locs X => ?_)
  refine lv_istore_n (lv' := [(3, .int r6), (0, .ref (ad 7)), (1, .int a1), (2, .int a2)]) hx hb dX2_plantLeaf_9 rfl hl (by decide) rfl (fun ls hl => ?_)
  refine lv_aload_n hx hb dX2_plantLeaf_10 rfl (lv_at hl 1 rfl) ?_
  refine wcgR_7_0 S X mG_575 dX2_plantLeaf_11 ?_
  refine lv_iload_n hx hb dX2_plantLeaf_14 rfl (lv_at hl 0 rfl) ?_
  obtain ⟨r15, τ15, hq15, hg⟩ := bd_some hg
  refine gc_Vv (As := [.int r6]) (rest := []) (q0 := 3) (ci := 12) S X (k2_X9_measureLeaf l dC dI ad kc sv hq15 H.size) cw_X9_measureLeaf mG_1294 rfl rfl rfl rfl rfl hl.1 (Nat.le_of_ble_eq_true rfl) dX2_plantLeaf_15 ⟨by omega, by omega⟩ (fun H locs X => ?_)
  refine lv_iload_n hx hb dX2_plantLeaf_18 rfl (lv_at hl 0 rfl) ?_
  obtain ⟨rfl, rfl⟩ := fin_some hg
  exact gr_i S hr hk X dX2_plantLeaf_19
end MX2_plantLeaf
set_option maxRecDepth 100000 in
theorem k2_X2_plantLeaf (l : Launch) (dC : Nat → ClassId) (dI : Nat → Nat → Nat) {ak : Nat → Nat} (ad : Nat → Nat) (kc : Nat → ClassId) (sv : Value) {σ τ : S5} {a1 : Int32} {a2 : Int32} {r : Int32} (hg : f_X2_plantLeaf a1 a2 σ = some (r, τ)) (sz : Nat) : Met l yX2_plantLeaf (Cond.code yX2_plantLeaf cX2_plantLeaf 4 (some .int) :: uG) { frames := 2, cells := 0, slots := 0, locals := 46 } (gPc (dC, dI) (tC kc) (wC ad kc sv) (zC ak) [.ref (ad 7), .int a1, .int a2] σ sz) (gQi (dC, dI) (tC kc) (wC ad kc sv) (va_A (wC ad kc sv σ) sz) r τ) 0 0 (va_A (wC ad kc sv σ) sz) :=
  g_start (by decide) (Nat.le_of_ble_eq_true rfl) (fun p e s m below meth c ls S hr hk X hl => w_X2_plantLeaf S hr hk ⟨Nat.le_refl _, Nat.le_refl _⟩ X hl hg)
section MX2_plantLifted
variable {p : Program} {l : Launch} {e : Env} {R : Room} {s : State} {m : MethodId} {args : Array Value} {below : List Frame} {meth : Method} {c : Code} {dC : Nat → ClassId} {dI : Nat → Nat → Nat} {ak : Nat → Nat} {A : Nat → Prop} {ad : Nat → Nat} {kc : Nat → ClassId} {sv : Value} {r : Unit} {τ : S5}
set_option maxHeartbeats 4000000 in
set_option maxRecDepth 100000 in
theorem w_X2_plantLifted_B111 {σ : S5} {rec111 : Int32 → Int32 → Int32 → Int32 → S5 → Option (Unit × S5)} {v3 : Int32} {v4 : Int32} {v5 : Int32} {v6 : Int32} {H : Heap} {locs : List Loc} {ls : Array Slot} (S : CallFix p m c cX2_plantLifted 8 s args uG RX2) (hr : meth.sig.returnType = none) (hk : meth.locks = false) (hR : 3 ≤ R.frames ∧ 69 ≤ R.locals)
    (hrec111 : ∀ (v3 : Int32) (v4 : Int32) (v5 : Int32) (v6 : Int32) (σ : S5) (H : Heap) (locs : List Loc) (ls : Array Slot), gX (dC, dI) (tC kc) (wC ad kc sv) (zC ak) A s σ H locs → lv_has ls 8 [(0, .ref (ad 7)), (3, .int v3), (4, .int v4), (5, .int v5), (6, .int v6)] → rec111 v3 v4 v5 v6 σ = some (r, τ) → W p l e R s m args below meth c H locs 0 0 (MQ below (gQv (dC, dI) (tC kc) (wC ad kc sv) A r τ) args s 0 0 A) (F0 m 111 ls []))
    (X : gX (dC, dI) (tC kc) (wC ad kc sv) (zC ak) A s σ H locs) (hl : lv_has ls 8 [(0, .ref (ad 7)), (3, .int v3), (4, .int v4), (5, .int v5), (6, .int v6)]) (hg : f_X2_plantLifted_B111 rec111 v3 v4 v5 v6 σ = some (r, τ)) : W p l e R s m args below meth c H locs 0 0 (MQ below (gQv (dC, dI) (tC kc) (wC ad kc sv) A r τ) args s 0 0 A) (F0 m 111 ls []) := by
  have hx := S.1
  have hb := S.2.1
  have hown := S.2.2.2.1
  have hu := S.2.2.2.2
  unfold f_X2_plantLifted_B111 at hg
  refine lv_iload hx hb dX2_plantLifted_111 (lv_at hl 4 rfl) ?_
  refine lv_aload_n hx hb dX2_plantLifted_113 rfl (lv_at hl 0 rfl) ?_
  refine wcgR_7_1 S X mG_576 dX2_plantLifted_114 ?_
  refine wcgR_2_8 S X mG_315 dX2_plantLifted_117 ?_
  refine lv_iload_n hx hb dX2_plantLifted_120 rfl (lv_at hl 1 rfl) ?_
  obtain ⟨hi121, hg⟩ := gd_some hg
  refine wclA_4 (v := (xA σ 4 v3)) S X hi121 rfl dX2_plantLifted_121 ?_
  refine lv_icmp_ge (tgt := 182) hx hb dX2_plantLifted_122 (by decide) (fun c122 => ?_) (fun c122 => ?_)
  · have hg := (if_pos c122).symm.trans hg
    obtain ⟨-, rfl⟩ := fin_some hg
    exact gr_v S hr hk X dX2_plantLifted_182
  · have hg := (if_neg c122).symm.trans hg
    refine lv_iload hx hb dX2_plantLifted_125 (lv_at hl 4 rfl) ?_
    refine lv_bipush (v := 8) hx hb dX2_plantLifted_127 (by decide) ?_
    refine lv_icmp_ge (tgt := 182) hx hb dX2_plantLifted_129 (by decide) (fun c129 => ?_) (fun c129 => ?_)
    · have hg := (if_pos c129).symm.trans hg
      obtain ⟨-, rfl⟩ := fin_some hg
      exact gr_v S hr hk X dX2_plantLifted_182
    · have hg := (if_neg c129).symm.trans hg
      refine lv_aload_n hx hb dX2_plantLifted_132 rfl (lv_at hl 0 rfl) ?_
      refine lv_iconst (v := 3) hx hb dX2_plantLifted_133 (by decide) ?_
      refine lv_aload_n hx hb dX2_plantLifted_134 rfl (lv_at hl 0 rfl) ?_
      refine lv_iload hx hb dX2_plantLifted_135 (lv_at hl 2 rfl) ?_
      refine lv_aload_n hx hb dX2_plantLifted_137 rfl (lv_at hl 0 rfl) ?_
      refine wcgR_7_1 S X mG_576 dX2_plantLifted_138 ?_
      refine wcgR_2_9 S X mG_317 dX2_plantLifted_141 ?_
      refine lv_iload_n hx hb dX2_plantLifted_144 rfl (lv_at hl 1 rfl) ?_
      refine lv_bipush (v := 8) hx hb dX2_plantLifted_145 (by decide) ?_
      refine lv_imul hx hb dX2_plantLifted_147 ?_
      refine lv_iload hx hb dX2_plantLifted_148 (lv_at hl 4 rfl) ?_
      refine lv_iadd hx hb dX2_plantLifted_150 ?_
      obtain ⟨hi151, hg⟩ := gd_some hg
      refine wclA_5 (v := (xA σ 5 ((v3 * 8) + v6))) S X hi151 rfl dX2_plantLifted_151 ?_
      obtain ⟨r152, τ152, hq152, hg⟩ := bd_some hg
      refine gc_Vi (As := [.int v4, .int (xA σ 5 ((v3 * 8) + v6))]) (rest := [.int 3, .ref (ad 7)]) (q0 := 7) (ci := 5) S X (k2_X2_numberIn l dC dI ad kc sv hq152 H.size) cw_X2_numberIn mG_1272 rfl rfl rfl rfl rfl hl.1 (Nat.le_of_ble_eq_true rfl) dX2_plantLifted_152 ⟨by omega, by omega⟩ (fun H locs X => ?_)
      obtain ⟨r155, τ155, hq155, hg⟩ := bd_some hg
      refine gc_Vi (As := [.int 3, .int r152]) (rest := []) (q0 := 7) (ci := 5) S X (k2_X2_plantLeaf l dC dI ad kc sv hq155 H.size) cw_X2_plantLeaf mG_1289 rfl rfl rfl rfl rfl hl.1 (Nat.le_of_ble_eq_true rfl) dX2_plantLifted_155 ⟨by omega, by omega⟩ (fun H locs X => ?_)
      refine lv_istore (lv' := [(7, .int r155), (0, .ref (ad 7)), (3, .int v3), (4, .int v4), (5, .int v5), (6, .int v6)]) hx hb dX2_plantLifted_158 hl (by decide) rfl (fun ls hl => ?_)
      refine lv_aload_n hx hb dX2_plantLifted_160 rfl (lv_at hl 1 rfl) ?_
      refine wcgR_7_0 S X mG_575 dX2_plantLifted_161 ?_
      refine wcgR_3_4 S X mG_404 dX2_plantLifted_164 ?_
      refine lv_iload hx hb dX2_plantLifted_167 (lv_at hl 4 rfl) ?_
      refine lv_iload hx hb dX2_plantLifted_169 (lv_at hl 0 rfl) ?_
      obtain ⟨hi171, hg⟩ := gd_some hg
      refine wcsA_17 S X hi171 dX2_plantLifted_171 (fun H locs X => ?_)
      refine lv_iload hx hb dX2_plantLifted_172 (lv_at hl 0 rfl) ?_
      refine lv_istore (lv' := [(5, .int r155), (7, .int r155), (0, .ref (ad 7)), (3, .int v3), (4, .int v4), (6, .int v6)]) hx hb dX2_plantLifted_174 hl (by decide) rfl (fun ls hl => ?_)
      refine lv_iinc (v := (v6 + 1)) (lv' := [(6, .int (v6 + 1)), (5, .int r155), (7, .int r155), (0, .ref (ad 7)), (3, .int v3), (4, .int v4)]) hx hb dX2_plantLifted_176 hl (k := 5) rfl (by rfl) (by decide) rfl (fun ls hl => ?_)
      refine lv_goto (tgt := 111) hx hb dX2_plantLifted_179 (by decide) ?_
      exact hrec111 _ _ _ _ _ _ _ _ X (lv_sub hl [3, 4, 5, 1, 0] rfl) hg
set_option maxHeartbeats 4000000 in
set_option maxRecDepth 100000 in
theorem w_X2_plantLifted_L111 (S : CallFix p m c cX2_plantLifted 8 s args uG RX2) (hr : meth.sig.returnType = none) (hk : meth.locks = false) (hR : 3 ≤ R.frames ∧ 69 ≤ R.locals) : ∀ (n : Nat) (v3 : Int32) (v4 : Int32) (v5 : Int32) (v6 : Int32) (σ : S5) (H : Heap) (locs : List Loc) (ls : Array Slot), gX (dC, dI) (tC kc) (wC ad kc sv) (zC ak) A s σ H locs → lv_has ls 8 [(0, .ref (ad 7)), (3, .int v3), (4, .int v4), (5, .int v5), (6, .int v6)] → f_X2_plantLifted_L111  n v3 v4 v5 v6 σ = some (r, τ) → W p l e R s m args below meth c H locs 0 0 (MQ below (gQv (dC, dI) (tC kc) (wC ad kc sv) A r τ) args s 0 0 A) (F0 m 111 ls []) := by
  intro n
  induction n with
  | zero => intro v3 v4 v5 v6 σ H locs ls X hl hg; cases hg
  | succ n ih => intro v3 v4 v5 v6 σ H locs ls X hl hg; exact w_X2_plantLifted_B111 S hr hk hR ih X hl hg
set_option maxHeartbeats 4000000 in
set_option maxRecDepth 100000 in
theorem w_X2_plantLifted {σ : S5} {a1 : Int32} {a2 : Int32} {H : Heap} {locs : List Loc} {ls : Array Slot} (S : CallFix p m c cX2_plantLifted 8 s args uG RX2) (hr : meth.sig.returnType = none) (hk : meth.locks = false) (hR : 3 ≤ R.frames ∧ 69 ≤ R.locals)
    (X : gX (dC, dI) (tC kc) (wC ad kc sv) (zC ak) A s σ H locs) (hl : lv_has ls 8 [(0, .ref (ad 7)), (1, .int a1), (2, .int a2)]) (hg : f_X2_plantLifted a1 a2 σ = some (r, τ)) : W p l e R s m args below meth c H locs 0 0 (MQ below (gQv (dC, dI) (tC kc) (wC ad kc sv) A r τ) args s 0 0 A) (F0 m 0 ls []) := by
  have hx := S.1
  have hb := S.2.1
  have hown := S.2.2.2.1
  have hu := S.2.2.2.2
  unfold f_X2_plantLifted at hg
  refine lv_aload_n hx hb dX2_plantLifted_0 rfl (lv_at hl 0 rfl) ?_
  refine wcgR_7_2 S X mG_577 dX2_plantLifted_1 ?_
  refine wcgR_4_7 S X mG_457 dX2_plantLifted_4 ?_
  refine lv_iload_n hx hb dX2_plantLifted_7 rfl (lv_at hl 2 rfl) ?_
  obtain ⟨hi8, hg⟩ := gd_some hg
  refine wclA_26 (v := (xA σ 26 a2)) S X hi8 rfl dX2_plantLifted_8 ?_
  refine lv_istore_n (lv' := [(3, .int (xA σ 26 a2)), (0, .ref (ad 7)), (1, .int a1), (2, .int a2)]) hx hb dX2_plantLifted_9 rfl hl (by decide) rfl (fun ls hl => ?_)
  refine lv_aload_n hx hb dX2_plantLifted_10 rfl (lv_at hl 1 rfl) ?_
  refine wcgR_7_1 S X mG_576 dX2_plantLifted_11 ?_
  refine wcgR_2_8 S X mG_315 dX2_plantLifted_14 ?_
  refine lv_iload_n hx hb dX2_plantLifted_17 rfl (lv_at hl 0 rfl) ?_
  obtain ⟨hi18, hg⟩ := gd_some hg
  refine wclA_4 (v := (xA σ 4 (xA σ 26 a2))) S X hi18 rfl dX2_plantLifted_18 ?_
  refine lv_if_ne (tgt := 33) hx hb dX2_plantLifted_19 (by decide) (fun c19 => ?_) (fun c19 => ?_)
  · have hg := (if_neg c19).symm.trans hg
    refine lv_aload_n hx hb dX2_plantLifted_33 rfl (lv_at hl 1 rfl) ?_
    refine wcgR_7_2 S X mG_577 dX2_plantLifted_34 ?_
    refine wcgR_4_7 S X mG_457 dX2_plantLifted_37 ?_
    refine lv_aload_n hx hb dX2_plantLifted_40 rfl (lv_at hl 1 rfl) ?_
    refine wcgR_7_2 S X mG_577 dX2_plantLifted_41 ?_
    refine wcgR_4_3 S X mG_448 dX2_plantLifted_44 ?_
    refine lv_aload_n hx hb dX2_plantLifted_47 rfl (lv_at hl 1 rfl) ?_
    refine wcgR_7_2 S X mG_577 dX2_plantLifted_48 ?_
    refine wcgR_4_2 S X mG_446 dX2_plantLifted_51 ?_
    refine lv_iload_n hx hb dX2_plantLifted_54 rfl (lv_at hl 3 rfl) ?_
    obtain ⟨hi55, hg⟩ := gd_some hg
    refine wclA_21 (v := (xA σ 21 a2)) S X hi55 rfl dX2_plantLifted_55 ?_
    obtain ⟨hi56, hg⟩ := gd_some hg
    refine wclA_22 (v := (xA σ 22 (xA σ 21 a2))) S X hi56 rfl dX2_plantLifted_56 ?_
    obtain ⟨hi57, hg⟩ := gd_some hg
    refine wclA_26 (v := (xA σ 26 (xA σ 22 (xA σ 21 a2)))) S X hi57 rfl dX2_plantLifted_57 ?_
    refine lv_istore (lv' := [(4, .int (xA σ 26 (xA σ 22 (xA σ 21 a2)))), (3, .int (xA σ 26 a2)), (0, .ref (ad 7)), (1, .int a1), (2, .int a2)]) hx hb dX2_plantLifted_58 hl (by decide) rfl (fun ls hl => ?_)
    refine lv_aload_n hx hb dX2_plantLifted_60 rfl (lv_at hl 2 rfl) ?_
    refine lv_iconst (v := 2) hx hb dX2_plantLifted_61 (by decide) ?_
    refine lv_iload_n hx hb dX2_plantLifted_62 rfl (lv_at hl 1 rfl) ?_
    obtain ⟨r63, τ63, hq63, hg⟩ := bd_some hg
    refine gc_Vi (As := [.int 2, .int (xA σ 26 a2)]) (rest := []) (q0 := 7) (ci := 5) S X (k2_X2_plantLeaf l dC dI ad kc sv hq63 H.size) cw_X2_plantLeaf mG_1289 rfl rfl rfl rfl rfl hl.1 (Nat.le_of_ble_eq_true rfl) dX2_plantLifted_63 ⟨by omega, by omega⟩ (fun H locs X => ?_)
    refine lv_istore (lv' := [(5, .int r63), (4, .int (xA σ 26 (xA σ 22 (xA σ 21 a2)))), (3, .int (xA σ 26 a2)), (0, .ref (ad 7)), (1, .int a1), (2, .int a2)]) hx hb dX2_plantLifted_66 hl (by decide) rfl (fun ls hl => ?_)
    refine lv_aload_n hx hb dX2_plantLifted_68 rfl (lv_at hl 3 rfl) ?_
    refine wcgR_7_0 S X mG_575 dX2_plantLifted_69 ?_
    refine lv_iload_n hx hb dX2_plantLifted_72 rfl (lv_at hl 4 rfl) ?_
    refine lv_bipush (v := 8) hx hb dX2_plantLifted_73 (by decide) ?_
    refine lv_iconst (v := 0) hx hb dX2_plantLifted_75 (by decide) ?_
    obtain ⟨r76, τ76, hq76, hg⟩ := bd_some hg
    refine gc_Vv (As := [.int a1, .int 8, .int 0]) (rest := []) (q0 := 3) (ci := 12) S X (k2_X9_change l dC dI ad kc sv hq76 H.size) cw_X9_change mG_1268 rfl rfl rfl rfl rfl hl.1 (Nat.le_of_ble_eq_true rfl) dX2_plantLifted_76 ⟨by omega, by omega⟩ (fun H locs X => ?_)
    refine lv_aload_n hx hb dX2_plantLifted_79 rfl (lv_at hl 3 rfl) ?_
    refine wcgR_7_0 S X mG_575 dX2_plantLifted_80 ?_
    refine wcgR_3_2 S X mG_393 dX2_plantLifted_83 ?_
    refine lv_iload_n hx hb dX2_plantLifted_86 rfl (lv_at hl 4 rfl) ?_
    refine lv_aload_n hx hb dX2_plantLifted_87 rfl (lv_at hl 3 rfl) ?_
    refine wcgR_7_1 S X mG_576 dX2_plantLifted_88 ?_
    refine wcgR_2_8 S X mG_315 dX2_plantLifted_91 ?_
    refine lv_iload_n hx hb dX2_plantLifted_94 rfl (lv_at hl 2 rfl) ?_
    obtain ⟨hi95, hg⟩ := gd_some hg
    refine wclA_4 (v := (xA τ76 4 (xA σ 26 a2))) S X hi95 rfl dX2_plantLifted_95 ?_
    obtain ⟨hi96, hg⟩ := gd_some hg
    refine wcsA_15 S X hi96 dX2_plantLifted_96 (fun H locs X => ?_)
    refine lv_aload_n hx hb dX2_plantLifted_97 rfl (lv_at hl 3 rfl) ?_
    refine wcgR_7_0 S X mG_575 dX2_plantLifted_98 ?_
    refine wcgR_3_3 S X mG_399 dX2_plantLifted_101 ?_
    refine lv_iload_n hx hb dX2_plantLifted_104 rfl (lv_at hl 4 rfl) ?_
    refine lv_iload hx hb dX2_plantLifted_105 (lv_at hl 0 rfl) ?_
    obtain ⟨hi107, hg⟩ := gd_some hg
    refine wcsA_16 S X hi107 dX2_plantLifted_107 (fun H locs X => ?_)
    refine lv_iconst (v := 0) hx hb dX2_plantLifted_108 (by decide) ?_
    refine lv_istore (lv' := [(6, .int 0), (5, .int r63), (4, .int (xA σ 26 (xA σ 22 (xA σ 21 a2)))), (3, .int (xA σ 26 a2)), (0, .ref (ad 7)), (1, .int a1), (2, .int a2)]) hx hb dX2_plantLifted_109 hl (by decide) rfl (fun ls hl => ?_)
    exact w_X2_plantLifted_L111 S hr hk hR _ _ _ _ _ _ _ _ _ X (lv_sub hl [4, 3, 2, 1, 0] rfl) hg
  · have hg := (if_pos c19).symm.trans hg
    refine lv_aload_n hx hb dX2_plantLifted_22 rfl (lv_at hl 1 rfl) ?_
    refine wcgR_7_0 S X mG_575 dX2_plantLifted_23 ?_
    refine lv_iload_n hx hb dX2_plantLifted_26 rfl (lv_at hl 2 rfl) ?_
    refine lv_iconst (v := 2) hx hb dX2_plantLifted_27 (by decide) ?_
    refine lv_iload_n hx hb dX2_plantLifted_28 rfl (lv_at hl 0 rfl) ?_
    obtain ⟨r29, τ29, hq29, hg⟩ := bd_some hg
    refine gc_Vv (As := [.int a1, .int 2, .int (xA σ 26 a2)]) (rest := []) (q0 := 3) (ci := 12) S X (k2_X9_change l dC dI ad kc sv hq29 H.size) cw_X9_change mG_1268 rfl rfl rfl rfl rfl hl.1 (Nat.le_of_ble_eq_true rfl) dX2_plantLifted_29 ⟨by omega, by omega⟩ (fun H locs X => ?_)
    obtain ⟨-, rfl⟩ := fin_some hg
    exact gr_v S hr hk X dX2_plantLifted_32
end MX2_plantLifted
set_option maxRecDepth 100000 in
theorem k2_X2_plantLifted (l : Launch) (dC : Nat → ClassId) (dI : Nat → Nat → Nat) {ak : Nat → Nat} (ad : Nat → Nat) (kc : Nat → ClassId) (sv : Value) {σ τ : S5} {a1 : Int32} {a2 : Int32} {r : Unit} (hg : f_X2_plantLifted a1 a2 σ = some (r, τ)) (sz : Nat) : Met l yX2_plantLifted (Cond.code yX2_plantLifted cX2_plantLifted 8 none :: uG) { frames := 3, cells := 0, slots := 0, locals := 69 } (gPc (dC, dI) (tC kc) (wC ad kc sv) (zC ak) [.ref (ad 7), .int a1, .int a2] σ sz) (gQv (dC, dI) (tC kc) (wC ad kc sv) (va_A (wC ad kc sv σ) sz) r τ) 0 0 (va_A (wC ad kc sv σ) sz) :=
  g_start (by decide) (Nat.le_of_ble_eq_true rfl) (fun p e s m below meth c ls S hr hk X hl => w_X2_plantLifted S hr hk ⟨Nat.le_refl _, Nat.le_refl _⟩ X hl hg)
section MX2_plantNode
variable {p : Program} {l : Launch} {e : Env} {R : Room} {s : State} {m : MethodId} {args : Array Value} {below : List Frame} {meth : Method} {c : Code} {dC : Nat → ClassId} {dI : Nat → Nat → Nat} {ak : Nat → Nat} {A : Nat → Prop} {ad : Nat → Nat} {kc : Nat → ClassId} {sv : Value} {r : Unit} {τ : S5}
set_option maxHeartbeats 4000000 in
set_option maxRecDepth 100000 in
theorem w_X2_plantNode {σ : S5} {a1 : Int32} {H : Heap} {locs : List Loc} {ls : Array Slot} (S : CallFix p m c cX2_plantNode 3 s args uG RX2) (hr : meth.sig.returnType = none) (hk : meth.locks = false) (hR : 4 ≤ R.frames ∧ 96 ≤ R.locals)
    (X : gX (dC, dI) (tC kc) (wC ad kc sv) (zC ak) A s σ H locs) (hl : lv_has ls 3 [(0, .ref (ad 7)), (1, .int a1)]) (hg : f_X2_plantNode a1 σ = some (r, τ)) : W p l e R s m args below meth c H locs 0 0 (MQ below (gQv (dC, dI) (tC kc) (wC ad kc sv) A r τ) args s 0 0 A) (F0 m 0 ls []) := by
  have hx := S.1
  have hb := S.2.1
  have hown := S.2.2.2.1
  have hu := S.2.2.2.2
  unfold f_X2_plantNode at hg
  refine lv_aload_n hx hb dX2_plantNode_0 rfl (lv_at hl 0 rfl) ?_
  refine wcgR_7_0 S X mG_575 dX2_plantNode_1 ?_
  refine wcgR_3_0 S X mG_384 dX2_plantNode_4 ?_
  refine lv_iload_n hx hb dX2_plantNode_7 rfl (lv_at hl 1 rfl) ?_
  obtain ⟨hi8, hg⟩ := gd_some hg
  refine wclA_13 (v := (xA σ 13 a1)) S X hi8 rfl dX2_plantNode_8 ?_
  rcases sw_7_14 ((xA σ 13 a1)) with hsw | hsw | hsw | hsw | hsw | hsw | hsw | hsw | hsw
  · refine lv_tableOut (tgt := 176) hx hb dX2_plantNode_9 hsw (by decide) ?_
    obtain ⟨hs0, hs1, hs2, hs3, hs4, hs5, hs6, hs7⟩ := swo_7_14 hsw
    have hg := (if_neg hs0).symm.trans hg
    have hg := (if_neg hs1).symm.trans hg
    have hg := (if_neg hs2).symm.trans hg
    have hg := (if_neg hs3).symm.trans hg
    have hg := (if_neg hs4).symm.trans hg
    have hg := (if_neg hs5).symm.trans hg
    have hg := (if_neg hs6).symm.trans hg
    have hg := (if_neg hs7).symm.trans hg
    obtain ⟨-, rfl⟩ := fin_some hg
    exact gr_v S hr hk X dX2_plantNode_176
  · refine lv_tableIn (off := 47) (tgt := 56) hx hb dX2_plantNode_9 (by rw [hsw]; decide) (by rw [hsw]; decide) (by rw [hsw]; decide) (by decide) ?_
    have hg := (if_pos hsw).symm.trans hg
    refine lv_aload_n hx hb dX2_plantNode_56 rfl (lv_at hl 0 rfl) ?_
    refine wcgR_7_0 S X mG_575 dX2_plantNode_57 ?_
    refine wcgR_3_2 S X mG_393 dX2_plantNode_60 ?_
    refine lv_iload_n hx hb dX2_plantNode_63 rfl (lv_at hl 1 rfl) ?_
    refine lv_aload_n hx hb dX2_plantNode_64 rfl (lv_at hl 0 rfl) ?_
    refine wcgR_7_2 S X mG_577 dX2_plantNode_65 ?_
    refine wcgR_4_7 S X mG_457 dX2_plantNode_68 ?_
    refine lv_aload_n hx hb dX2_plantNode_71 rfl (lv_at hl 0 rfl) ?_
    refine wcgR_7_2 S X mG_577 dX2_plantNode_72 ?_
    refine wcgR_4_3 S X mG_448 dX2_plantNode_75 ?_
    refine lv_aload_n hx hb dX2_plantNode_78 rfl (lv_at hl 0 rfl) ?_
    refine wcgR_7_0 S X mG_575 dX2_plantNode_79 ?_
    refine wcgR_3_2 S X mG_393 dX2_plantNode_82 ?_
    refine lv_iload_n hx hb dX2_plantNode_85 rfl (lv_at hl 1 rfl) ?_
    obtain ⟨hi86, hg⟩ := gd_some hg
    refine wclA_15 (v := (xA σ 15 a1)) S X hi86 rfl dX2_plantNode_86 ?_
    obtain ⟨hi87, hg⟩ := gd_some hg
    refine wclA_22 (v := (xA σ 22 (xA σ 15 a1))) S X hi87 rfl dX2_plantNode_87 ?_
    obtain ⟨hi88, hg⟩ := gd_some hg
    refine wclA_26 (v := (xA σ 26 (xA σ 22 (xA σ 15 a1)))) S X hi88 rfl dX2_plantNode_88 ?_
    obtain ⟨hi89, hg⟩ := gd_some hg
    refine wcsA_15 S X hi89 dX2_plantNode_89 (fun H locs X => ?_)
    refine lv_goto (tgt := 176) hx hb dX2_plantNode_90 (by decide) ?_
    obtain ⟨-, rfl⟩ := fin_some hg
    exact gr_v S hr hk X dX2_plantNode_176
  · refine lv_tableIn (off := 167) (tgt := 176) hx hb dX2_plantNode_9 (by rw [hsw]; decide) (by rw [hsw]; decide) (by rw [hsw]; decide) (by decide) ?_
    have hg := (if_neg (by rw [hsw]; decide)).symm.trans hg
    have hg := (if_pos hsw).symm.trans hg
    obtain ⟨-, rfl⟩ := fin_some hg
    exact gr_v S hr hk X dX2_plantNode_176
  · refine lv_tableIn (off := 167) (tgt := 176) hx hb dX2_plantNode_9 (by rw [hsw]; decide) (by rw [hsw]; decide) (by rw [hsw]; decide) (by decide) ?_
    have hg := (if_neg (by rw [hsw]; decide)).symm.trans hg
    have hg := (if_neg (by rw [hsw]; decide)).symm.trans hg
    have hg := (if_pos hsw).symm.trans hg
    obtain ⟨-, rfl⟩ := fin_some hg
    exact gr_v S hr hk X dX2_plantNode_176
  · refine lv_tableIn (off := 84) (tgt := 93) hx hb dX2_plantNode_9 (by rw [hsw]; decide) (by rw [hsw]; decide) (by rw [hsw]; decide) (by decide) ?_
    have hg := (if_neg (by rw [hsw]; decide)).symm.trans hg
    have hg := (if_neg (by rw [hsw]; decide)).symm.trans hg
    have hg := (if_neg (by rw [hsw]; decide)).symm.trans hg
    have hg := (if_pos hsw).symm.trans hg
    refine lv_aload_n hx hb dX2_plantNode_93 rfl (lv_at hl 0 rfl) ?_
    refine wcgR_7_0 S X mG_575 dX2_plantNode_94 ?_
    refine wcgR_3_1 S X mG_389 dX2_plantNode_97 ?_
    refine lv_iload_n hx hb dX2_plantNode_100 rfl (lv_at hl 1 rfl) ?_
    obtain ⟨hi101, hg⟩ := gd_some hg
    refine wclA_14 (v := (xA σ 14 a1)) S X hi101 rfl dX2_plantNode_101 ?_
    refine lv_istore_n (lv' := [(2, .int (xA σ 14 a1)), (0, .ref (ad 7)), (1, .int a1)]) hx hb dX2_plantNode_102 rfl hl (by decide) rfl (fun ls hl => ?_)
    refine lv_aload_n hx hb dX2_plantNode_103 rfl (lv_at hl 1 rfl) ?_
    refine wcgR_7_0 S X mG_575 dX2_plantNode_104 ?_
    refine wcgR_3_1 S X mG_389 dX2_plantNode_107 ?_
    refine lv_iload_n hx hb dX2_plantNode_110 rfl (lv_at hl 2 rfl) ?_
    refine lv_aload_n hx hb dX2_plantNode_111 rfl (lv_at hl 1 rfl) ?_
    refine wcgR_7_2 S X mG_577 dX2_plantNode_112 ?_
    refine wcgR_4_6 S X mG_455 dX2_plantNode_115 ?_
    refine lv_iload_n hx hb dX2_plantNode_118 rfl (lv_at hl 0 rfl) ?_
    refine lv_iconst (v := 5) hx hb dX2_plantNode_119 (by decide) ?_
    refine lv_idiv hx hb dX2_plantNode_120 (by decide) ?_
    obtain ⟨hi121, hg⟩ := gd_some hg
    refine wclA_25 (v := (xA σ 25 ((xA σ 14 a1) / 5))) S X hi121 rfl dX2_plantNode_121 ?_
    refine lv_iload_n hx hb dX2_plantNode_122 rfl (lv_at hl 0 rfl) ?_
    refine lv_iconst (v := 5) hx hb dX2_plantNode_123 (by decide) ?_
    refine lv_irem hx hb dX2_plantNode_124 (by decide) ?_
    refine lv_iadd hx hb dX2_plantNode_125 ?_
    obtain ⟨hi126, hg⟩ := gd_some hg
    refine wcsA_14 S X hi126 dX2_plantNode_126 (fun H locs X => ?_)
    refine lv_goto (tgt := 176) hx hb dX2_plantNode_127 (by decide) ?_
    obtain ⟨-, rfl⟩ := fin_some hg
    exact gr_v S hr hk X dX2_plantNode_176
  · refine lv_tableIn (off := 121) (tgt := 130) hx hb dX2_plantNode_9 (by rw [hsw]; decide) (by rw [hsw]; decide) (by rw [hsw]; decide) (by decide) ?_
    have hg := (if_neg (by rw [hsw]; decide)).symm.trans hg
    have hg := (if_neg (by rw [hsw]; decide)).symm.trans hg
    have hg := (if_neg (by rw [hsw]; decide)).symm.trans hg
    have hg := (if_neg (by rw [hsw]; decide)).symm.trans hg
    have hg := (if_pos hsw).symm.trans hg
    refine lv_aload_n hx hb dX2_plantNode_130 rfl (lv_at hl 0 rfl) ?_
    refine wcgR_7_0 S X mG_575 dX2_plantNode_131 ?_
    refine wcgR_3_2 S X mG_393 dX2_plantNode_134 ?_
    refine lv_iload_n hx hb dX2_plantNode_137 rfl (lv_at hl 1 rfl) ?_
    refine lv_aload_n hx hb dX2_plantNode_138 rfl (lv_at hl 0 rfl) ?_
    refine wcgR_7_2 S X mG_577 dX2_plantNode_139 ?_
    refine wcgR_4_6 S X mG_455 dX2_plantNode_142 ?_
    refine lv_aload_n hx hb dX2_plantNode_145 rfl (lv_at hl 0 rfl) ?_
    refine wcgR_7_0 S X mG_575 dX2_plantNode_146 ?_
    refine wcgR_3_2 S X mG_393 dX2_plantNode_149 ?_
    refine lv_iload_n hx hb dX2_plantNode_152 rfl (lv_at hl 1 rfl) ?_
    obtain ⟨hi153, hg⟩ := gd_some hg
    refine wclA_15 (v := (xA σ 15 a1)) S X hi153 rfl dX2_plantNode_153 ?_
    obtain ⟨hi154, hg⟩ := gd_some hg
    refine wclA_25 (v := (xA σ 25 (xA σ 15 a1))) S X hi154 rfl dX2_plantNode_154 ?_
    obtain ⟨hi155, hg⟩ := gd_some hg
    refine wcsA_15 S X hi155 dX2_plantNode_155 (fun H locs X => ?_)
    refine lv_goto (tgt := 176) hx hb dX2_plantNode_156 (by decide) ?_
    obtain ⟨-, rfl⟩ := fin_some hg
    exact gr_v S hr hk X dX2_plantNode_176
  · refine lv_tableIn (off := 167) (tgt := 176) hx hb dX2_plantNode_9 (by rw [hsw]; decide) (by rw [hsw]; decide) (by rw [hsw]; decide) (by decide) ?_
    have hg := (if_neg (by rw [hsw]; decide)).symm.trans hg
    have hg := (if_neg (by rw [hsw]; decide)).symm.trans hg
    have hg := (if_neg (by rw [hsw]; decide)).symm.trans hg
    have hg := (if_neg (by rw [hsw]; decide)).symm.trans hg
    have hg := (if_neg (by rw [hsw]; decide)).symm.trans hg
    have hg := (if_pos hsw).symm.trans hg
    obtain ⟨-, rfl⟩ := fin_some hg
    exact gr_v S hr hk X dX2_plantNode_176
  · refine lv_tableIn (off := 167) (tgt := 176) hx hb dX2_plantNode_9 (by rw [hsw]; decide) (by rw [hsw]; decide) (by rw [hsw]; decide) (by decide) ?_
    have hg := (if_neg (by rw [hsw]; decide)).symm.trans hg
    have hg := (if_neg (by rw [hsw]; decide)).symm.trans hg
    have hg := (if_neg (by rw [hsw]; decide)).symm.trans hg
    have hg := (if_neg (by rw [hsw]; decide)).symm.trans hg
    have hg := (if_neg (by rw [hsw]; decide)).symm.trans hg
    have hg := (if_neg (by rw [hsw]; decide)).symm.trans hg
    have hg := (if_pos hsw).symm.trans hg
    obtain ⟨-, rfl⟩ := fin_some hg
    exact gr_v S hr hk X dX2_plantNode_176
  · refine lv_tableIn (off := 150) (tgt := 159) hx hb dX2_plantNode_9 (by rw [hsw]; decide) (by rw [hsw]; decide) (by rw [hsw]; decide) (by decide) ?_
    have hg := (if_neg (by rw [hsw]; decide)).symm.trans hg
    have hg := (if_neg (by rw [hsw]; decide)).symm.trans hg
    have hg := (if_neg (by rw [hsw]; decide)).symm.trans hg
    have hg := (if_neg (by rw [hsw]; decide)).symm.trans hg
    have hg := (if_neg (by rw [hsw]; decide)).symm.trans hg
    have hg := (if_neg (by rw [hsw]; decide)).symm.trans hg
    have hg := (if_neg (by rw [hsw]; decide)).symm.trans hg
    have hg := (if_pos hsw).symm.trans hg
    refine lv_aload_n hx hb dX2_plantNode_159 rfl (lv_at hl 0 rfl) ?_
    refine lv_iload_n hx hb dX2_plantNode_160 rfl (lv_at hl 1 rfl) ?_
    refine lv_aload_n hx hb dX2_plantNode_161 rfl (lv_at hl 0 rfl) ?_
    refine wcgR_7_0 S X mG_575 dX2_plantNode_162 ?_
    refine wcgR_3_1 S X mG_389 dX2_plantNode_165 ?_
    refine lv_iload_n hx hb dX2_plantNode_168 rfl (lv_at hl 1 rfl) ?_
    obtain ⟨hi169, hg⟩ := gd_some hg
    refine wclA_14 (v := (xA σ 14 a1)) S X hi169 rfl dX2_plantNode_169 ?_
    obtain ⟨r170, τ170, hq170, hg⟩ := bd_some hg
    refine gc_Vv (As := [.int a1, .int (xA σ 14 a1)]) (rest := []) (q0 := 7) (ci := 5) S X (k2_X2_plantLifted l dC dI ad kc sv hq170 H.size) cw_X2_plantLifted mG_1285 rfl rfl rfl rfl rfl hl.1 (Nat.le_of_ble_eq_true rfl) dX2_plantNode_170 ⟨by omega, by omega⟩ (fun H locs X => ?_)
    refine lv_goto (tgt := 176) hx hb dX2_plantNode_173 (by decide) ?_
    obtain ⟨-, rfl⟩ := fin_some hg
    exact gr_v S hr hk X dX2_plantNode_176
end MX2_plantNode
set_option maxRecDepth 100000 in
theorem k2_X2_plantNode (l : Launch) (dC : Nat → ClassId) (dI : Nat → Nat → Nat) {ak : Nat → Nat} (ad : Nat → Nat) (kc : Nat → ClassId) (sv : Value) {σ τ : S5} {a1 : Int32} {r : Unit} (hg : f_X2_plantNode a1 σ = some (r, τ)) (sz : Nat) : Met l yX2_plantNode (Cond.code yX2_plantNode cX2_plantNode 3 none :: uG) { frames := 4, cells := 0, slots := 0, locals := 96 } (gPc (dC, dI) (tC kc) (wC ad kc sv) (zC ak) [.ref (ad 7), .int a1] σ sz) (gQv (dC, dI) (tC kc) (wC ad kc sv) (va_A (wC ad kc sv σ) sz) r τ) 0 0 (va_A (wC ad kc sv σ) sz) :=
  g_start (by decide) (Nat.le_of_ble_eq_true rfl) (fun p e s m below meth c ls S hr hk X hl => w_X2_plantNode S hr hk ⟨Nat.le_refl _, Nat.le_refl _⟩ X hl hg)
section MX2_plantNodes
variable {p : Program} {l : Launch} {e : Env} {R : Room} {s : State} {m : MethodId} {args : Array Value} {below : List Frame} {meth : Method} {c : Code} {dC : Nat → ClassId} {dI : Nat → Nat → Nat} {ak : Nat → Nat} {A : Nat → Prop} {ad : Nat → Nat} {kc : Nat → ClassId} {sv : Value} {r : Unit} {τ : S5}
set_option maxHeartbeats 4000000 in
set_option maxRecDepth 100000 in
theorem w_X2_plantNodes_b89 {σ : S5} {rec10 : Int32 → Int32 → S5 → Option (Unit × S5)} {v1 : Int32} {v2 : Int32} {H : Heap} {locs : List Loc} {ls : Array Slot} (S : CallFix p m c cX2_plantNodes 4 s args uG RX2) (hr : meth.sig.returnType = none) (hk : meth.locks = false) (hR : 5 ≤ R.frames ∧ 118 ≤ R.locals)
    (hrec10 : ∀ (v1 : Int32) (v2 : Int32) (σ : S5) (H : Heap) (locs : List Loc) (ls : Array Slot), gX (dC, dI) (tC kc) (wC ad kc sv) (zC ak) A s σ H locs → lv_has ls 4 [(0, .ref (ad 7)), (1, .int v1), (2, .int v2)] → rec10 v1 v2 σ = some (r, τ) → W p l e R s m args below meth c H locs 0 0 (MQ below (gQv (dC, dI) (tC kc) (wC ad kc sv) A r τ) args s 0 0 A) (F0 m 10 ls []))
    (X : gX (dC, dI) (tC kc) (wC ad kc sv) (zC ak) A s σ H locs) (hl : lv_has ls 4 [(0, .ref (ad 7)), (1, .int v1), (2, .int v2)]) (hg : f_X2_plantNodes_b89 rec10 v1 v2 σ = some (r, τ)) : W p l e R s m args below meth c H locs 0 0 (MQ below (gQv (dC, dI) (tC kc) (wC ad kc sv) A r τ) args s 0 0 A) (F0 m 89 ls []) := by
  have hx := S.1
  have hb := S.2.1
  have hown := S.2.2.2.1
  have hu := S.2.2.2.2
  unfold f_X2_plantNodes_b89 at hg
  refine lv_iinc (v := (v2 + 1)) (lv' := [(2, .int (v2 + 1)), (0, .ref (ad 7)), (1, .int v1)]) hx hb dX2_plantNodes_89 hl (k := 2) rfl (by rfl) (by decide) rfl (fun ls hl => ?_)
  refine lv_goto (tgt := 10) hx hb dX2_plantNodes_92 (by decide) ?_
  exact hrec10 _ _ _ _ _ _ X (lv_sub hl [1, 2, 0] rfl) hg
set_option maxHeartbeats 4000000 in
set_option maxRecDepth 100000 in
theorem w_X2_plantNodes_b86 {σ : S5} {rec10 : Int32 → Int32 → S5 → Option (Unit × S5)} {v1 : Int32} {v2 : Int32} {u0 : Int32} {u1 : Int32} {H : Heap} {locs : List Loc} {ls : Array Slot} (S : CallFix p m c cX2_plantNodes 4 s args uG RX2) (hr : meth.sig.returnType = none) (hk : meth.locks = false) (hR : 5 ≤ R.frames ∧ 118 ≤ R.locals)
    (hrec10 : ∀ (v1 : Int32) (v2 : Int32) (σ : S5) (H : Heap) (locs : List Loc) (ls : Array Slot), gX (dC, dI) (tC kc) (wC ad kc sv) (zC ak) A s σ H locs → lv_has ls 4 [(0, .ref (ad 7)), (1, .int v1), (2, .int v2)] → rec10 v1 v2 σ = some (r, τ) → W p l e R s m args below meth c H locs 0 0 (MQ below (gQv (dC, dI) (tC kc) (wC ad kc sv) A r τ) args s 0 0 A) (F0 m 10 ls []))
    (X : gX (dC, dI) (tC kc) (wC ad kc sv) (zC ak) A s σ H locs) (hl : lv_has ls 4 [(0, .ref (ad 7)), (1, .int v1), (2, .int v2)]) (hg : f_X2_plantNodes_b86 rec10 v1 v2 u0 u1 σ = some (r, τ)) : W p l e R s m args below meth c H locs 0 0 (MQ below (gQv (dC, dI) (tC kc) (wC ad kc sv) A r τ) args s 0 0 A) (F0 m 86 ls [.int u0, .int u1, .ref (ad 3)]) := by
  have hx := S.1
  have hb := S.2.1
  have hown := S.2.2.2.1
  have hu := S.2.2.2.2
  unfold f_X2_plantNodes_b86 at hg
  obtain ⟨r86, τ86, hq86, hg⟩ := bd_some hg
  refine gc_Vv (As := [.int u1, .int u0]) (rest := []) (q0 := 3) (ci := 12) S X (k2_X9_measure l dC dI ad kc sv hq86 H.size) cw_X9_measure mG_1298 rfl rfl rfl rfl rfl hl.1 (Nat.le_of_ble_eq_true rfl) dX2_plantNodes_86 ⟨by omega, by omega⟩ (fun H locs X => ?_)
  exact w_X2_plantNodes_b89 S hr hk hR hrec10 X (lv_sub hl [0, 1, 2] rfl) hg
set_option maxHeartbeats 4000000 in
set_option maxRecDepth 100000 in
theorem w_X2_plantNodes_B10 {σ : S5} {rec10 : Int32 → Int32 → S5 → Option (Unit × S5)} {v1 : Int32} {v2 : Int32} {H : Heap} {locs : List Loc} {ls : Array Slot} (S : CallFix p m c cX2_plantNodes 4 s args uG RX2) (hr : meth.sig.returnType = none) (hk : meth.locks = false) (hR : 5 ≤ R.frames ∧ 118 ≤ R.locals)
    (hrec10 : ∀ (v1 : Int32) (v2 : Int32) (σ : S5) (H : Heap) (locs : List Loc) (ls : Array Slot), gX (dC, dI) (tC kc) (wC ad kc sv) (zC ak) A s σ H locs → lv_has ls 4 [(0, .ref (ad 7)), (1, .int v1), (2, .int v2)] → rec10 v1 v2 σ = some (r, τ) → W p l e R s m args below meth c H locs 0 0 (MQ below (gQv (dC, dI) (tC kc) (wC ad kc sv) A r τ) args s 0 0 A) (F0 m 10 ls []))
    (X : gX (dC, dI) (tC kc) (wC ad kc sv) (zC ak) A s σ H locs) (hl : lv_has ls 4 [(0, .ref (ad 7)), (1, .int v1), (2, .int v2)]) (hg : f_X2_plantNodes_B10 rec10 v1 v2 σ = some (r, τ)) : W p l e R s m args below meth c H locs 0 0 (MQ below (gQv (dC, dI) (tC kc) (wC ad kc sv) A r τ) args s 0 0 A) (F0 m 10 ls []) := by
  have hx := S.1
  have hb := S.2.1
  have hown := S.2.2.2.1
  have hu := S.2.2.2.2
  unfold f_X2_plantNodes_B10 at hg
  refine lv_iload_n hx hb dX2_plantNodes_10 rfl (lv_at hl 2 rfl) ?_
  refine lv_iload_n hx hb dX2_plantNodes_11 rfl (lv_at hl 1 rfl) ?_
  refine lv_icmp_ge (tgt := 95) hx hb dX2_plantNodes_12 (by decide) (fun c12 => ?_) (fun c12 => ?_)
  · have hg := (if_pos c12).symm.trans hg
    obtain ⟨-, rfl⟩ := fin_some hg
    exact gr_v S hr hk X dX2_plantNodes_95
  · have hg := (if_neg c12).symm.trans hg
    refine lv_aload_n hx hb dX2_plantNodes_15 rfl (lv_at hl 0 rfl) ?_
    refine lv_iload_n hx hb dX2_plantNodes_16 rfl (lv_at hl 2 rfl) ?_
    obtain ⟨r17, τ17, hq17, hg⟩ := bd_some hg
    refine gc_Vv (As := [.int v2]) (rest := []) (q0 := 7) (ci := 5) S X (k2_X2_plantNode l dC dI ad kc sv hq17 H.size) cw_X2_plantNode mG_1281 rfl rfl rfl rfl rfl hl.1 (Nat.le_of_ble_eq_true rfl) dX2_plantNodes_17 ⟨by omega, by omega⟩ (fun H locs X => ?_)
    refine lv_aload_n hx hb dX2_plantNodes_20 rfl (lv_at hl 0 rfl) ?_
    refine wcgR_7_0 S X mG_575 dX2_plantNodes_21 ?_
    refine wcgR_3_0 S X mG_384 dX2_plantNodes_24 ?_
    refine lv_iload_n hx hb dX2_plantNodes_27 rfl (lv_at hl 2 rfl) ?_
    obtain ⟨hi28, hg⟩ := gd_some hg
    refine wclA_13 (v := (xA τ17 13 v2)) S X hi28 rfl dX2_plantNodes_28 ?_
    refine lv_istore_n (lv' := [(3, .int (xA τ17 13 v2)), (0, .ref (ad 7)), (1, .int v1), (2, .int v2)]) hx hb dX2_plantNodes_29 rfl hl (by decide) rfl (fun ls hl => ?_)
    refine lv_aload_n hx hb dX2_plantNodes_30 rfl (lv_at hl 1 rfl) ?_
    refine wcgR_7_0 S X mG_575 dX2_plantNodes_31 ?_
    refine wcgR_3_3 S X mG_399 dX2_plantNodes_34 ?_
    refine lv_iload_n hx hb dX2_plantNodes_37 rfl (lv_at hl 3 rfl) ?_
    obtain ⟨hi38, hg⟩ := gd_some hg
    refine wclA_16 (v := (xA τ17 16 v2)) S X hi38 rfl dX2_plantNodes_38 ?_
    refine lv_iconst (v := (-1)) hx hb dX2_plantNodes_39 (by decide) ?_
    refine lv_icmp_ne (tgt := 54) hx hb dX2_plantNodes_40 (by decide) (fun c40 => ?_) (fun c40 => ?_)
    · have hg := (if_neg c40).symm.trans hg
      refine lv_aload_n hx hb dX2_plantNodes_54 rfl (lv_at hl 1 rfl) ?_
      refine wcgR_7_0 S X mG_575 dX2_plantNodes_55 ?_
      refine lv_iload_n hx hb dX2_plantNodes_58 rfl (lv_at hl 3 rfl) ?_
      refine lv_iload_n hx hb dX2_plantNodes_59 rfl (lv_at hl 0 rfl) ?_
      refine lv_bipush (v := 11) hx hb dX2_plantNodes_60 (by decide) ?_
      refine lv_icmp_ne (tgt := 85) hx hb dX2_plantNodes_62 (by decide) (fun c62 => ?_) (fun c62 => ?_)
      · have hg := (if_neg c62).symm.trans hg
        refine lv_iconst (v := 0) hx hb dX2_plantNodes_85 (by decide) ?_
        exact w_X2_plantNodes_b86 S hr hk hR hrec10 X (lv_sub hl [1, 2, 3] rfl) hg
      · have hg := (if_pos c62).symm.trans hg
        refine lv_aload_n hx hb dX2_plantNodes_65 rfl (lv_at hl 1 rfl) ?_
        refine wcgR_7_1 S X mG_576 dX2_plantNodes_66 ?_
        refine wcgR_2_1 S X mG_287 dX2_plantNodes_69 ?_
        refine lv_aload_n hx hb dX2_plantNodes_72 rfl (lv_at hl 1 rfl) ?_
        refine wcgR_7_0 S X mG_575 dX2_plantNodes_73 ?_
        refine wcgR_3_1 S X mG_389 dX2_plantNodes_76 ?_
        refine lv_iload_n hx hb dX2_plantNodes_79 rfl (lv_at hl 3 rfl) ?_
        obtain ⟨hi80, hg⟩ := gd_some hg
        refine wclA_14 (v := (xA τ17 14 v2)) S X hi80 rfl dX2_plantNodes_80 ?_
        obtain ⟨hi81, hg⟩ := gd_some hg
        refine wclA_2 (v := (xA τ17 2 (xA τ17 14 v2))) S X hi81 rfl dX2_plantNodes_81 ?_
        refine lv_goto (tgt := 86) hx hb dX2_plantNodes_82 (by decide) ?_
        exact w_X2_plantNodes_b86 S hr hk hR hrec10 X (lv_sub hl [1, 2, 3] rfl) hg
    · have hg := (if_pos c40).symm.trans hg
      refine lv_aload_n hx hb dX2_plantNodes_43 rfl (lv_at hl 1 rfl) ?_
      refine wcgR_7_0 S X mG_575 dX2_plantNodes_44 ?_
      refine lv_iload_n hx hb dX2_plantNodes_47 rfl (lv_at hl 3 rfl) ?_
      obtain ⟨r48, τ48, hq48, hg⟩ := bd_some hg
      refine gc_Vv (As := [.int v2]) (rest := []) (q0 := 3) (ci := 12) S X (k2_X9_measureLeaf l dC dI ad kc sv hq48 H.size) cw_X9_measureLeaf mG_1294 rfl rfl rfl rfl rfl hl.1 (Nat.le_of_ble_eq_true rfl) dX2_plantNodes_48 ⟨by omega, by omega⟩ (fun H locs X => ?_)
      refine lv_goto (tgt := 89) hx hb dX2_plantNodes_51 (by decide) ?_
      exact w_X2_plantNodes_b89 S hr hk hR hrec10 X (lv_sub hl [1, 2, 3] rfl) hg
set_option maxHeartbeats 4000000 in
set_option maxRecDepth 100000 in
theorem w_X2_plantNodes_L10 (S : CallFix p m c cX2_plantNodes 4 s args uG RX2) (hr : meth.sig.returnType = none) (hk : meth.locks = false) (hR : 5 ≤ R.frames ∧ 118 ≤ R.locals) : ∀ (n : Nat) (v1 : Int32) (v2 : Int32) (σ : S5) (H : Heap) (locs : List Loc) (ls : Array Slot), gX (dC, dI) (tC kc) (wC ad kc sv) (zC ak) A s σ H locs → lv_has ls 4 [(0, .ref (ad 7)), (1, .int v1), (2, .int v2)] → f_X2_plantNodes_L10  n v1 v2 σ = some (r, τ) → W p l e R s m args below meth c H locs 0 0 (MQ below (gQv (dC, dI) (tC kc) (wC ad kc sv) A r τ) args s 0 0 A) (F0 m 10 ls []) := by
  intro n
  induction n with
  | zero => intro v1 v2 σ H locs ls X hl hg; cases hg
  | succ n ih => intro v1 v2 σ H locs ls X hl hg; exact w_X2_plantNodes_B10 S hr hk hR ih X hl hg
set_option maxHeartbeats 4000000 in
set_option maxRecDepth 100000 in
theorem w_X2_plantNodes {σ : S5}  {H : Heap} {locs : List Loc} {ls : Array Slot} (S : CallFix p m c cX2_plantNodes 4 s args uG RX2) (hr : meth.sig.returnType = none) (hk : meth.locks = false) (hR : 5 ≤ R.frames ∧ 118 ≤ R.locals)
    (X : gX (dC, dI) (tC kc) (wC ad kc sv) (zC ak) A s σ H locs) (hl : lv_has ls 4 [(0, .ref (ad 7))]) (hg : f_X2_plantNodes  σ = some (r, τ)) : W p l e R s m args below meth c H locs 0 0 (MQ below (gQv (dC, dI) (tC kc) (wC ad kc sv) A r τ) args s 0 0 A) (F0 m 0 ls []) := by
  have hx := S.1
  have hb := S.2.1
  have hown := S.2.2.2.1
  have hu := S.2.2.2.2
  unfold f_X2_plantNodes at hg
  refine lv_aload_n hx hb dX2_plantNodes_0 rfl (lv_at hl 0 rfl) ?_
  refine wcgR_7_0 S X mG_575 dX2_plantNodes_1 ?_
  refine wcgI_8 (v := (gI σ 8)) S X mG_415 rfl dX2_plantNodes_4 ?_
  refine lv_istore_n (lv' := [(1, .int (gI σ 8)), (0, .ref (ad 7))]) hx hb dX2_plantNodes_7 rfl hl (by decide) rfl (fun ls hl => ?_)
  refine lv_iconst (v := 0) hx hb dX2_plantNodes_8 (by decide) ?_
  refine lv_istore_n (lv' := [(2, .int 0), (1, .int (gI σ 8)), (0, .ref (ad 7))]) hx hb dX2_plantNodes_9 rfl hl (by decide) rfl (fun ls hl => ?_)
  exact w_X2_plantNodes_L10 S hr hk hR _ _ _ _ _ _ _ X (lv_sub hl [2, 1, 0] rfl) hg
end MX2_plantNodes
set_option maxRecDepth 100000 in
theorem k2_X2_plantNodes (l : Launch) (dC : Nat → ClassId) (dI : Nat → Nat → Nat) {ak : Nat → Nat} (ad : Nat → Nat) (kc : Nat → ClassId) (sv : Value) {σ τ : S5}  {r : Unit} (hg : f_X2_plantNodes  σ = some (r, τ)) (sz : Nat) : Met l yX2_plantNodes (Cond.code yX2_plantNodes cX2_plantNodes 4 none :: uG) { frames := 5, cells := 0, slots := 0, locals := 118 } (gPc (dC, dI) (tC kc) (wC ad kc sv) (zC ak) [.ref (ad 7)] σ sz) (gQv (dC, dI) (tC kc) (wC ad kc sv) (va_A (wC ad kc sv σ) sz) r τ) 0 0 (va_A (wC ad kc sv σ) sz) :=
  g_start (by decide) (Nat.le_of_ble_eq_true rfl) (fun p e s m below meth c ls S hr hk X hl => w_X2_plantNodes S hr hk ⟨Nat.le_refl _, Nat.le_refl _⟩ X hl hg)
section MX2_keepMeasures
variable {p : Program} {l : Launch} {e : Env} {R : Room} {s : State} {m : MethodId} {args : Array Value} {below : List Frame} {meth : Method} {c : Code} {dC : Nat → ClassId} {dI : Nat → Nat → Nat} {ak : Nat → Nat} {A : Nat → Prop} {ad : Nat → Nat} {kc : Nat → ClassId} {sv : Value} {r : Unit} {τ : S5}
set_option maxHeartbeats 4000000 in
set_option maxRecDepth 100000 in
theorem w_X2_keepMeasures_b116 {σ : S5} {rec2 : Int32 → S5 → Option (Unit × S5)} {v1 : Int32} {H : Heap} {locs : List Loc} {ls : Array Slot} (S : CallFix p m c cX2_keepMeasures 2 s args uG RX2) (hr : meth.sig.returnType = none) (hk : meth.locks = false) (hR : 1 ≤ R.frames ∧ 22 ≤ R.locals)
    (hrec2 : ∀ (v1 : Int32) (σ : S5) (H : Heap) (locs : List Loc) (ls : Array Slot), gX (dC, dI) (tC kc) (wC ad kc sv) (zC ak) A s σ H locs → lv_has ls 2 [(0, .ref (ad 7)), (1, .int v1)] → rec2 v1 σ = some (r, τ) → W p l e R s m args below meth c H locs 0 0 (MQ below (gQv (dC, dI) (tC kc) (wC ad kc sv) A r τ) args s 0 0 A) (F0 m 2 ls []))
    (X : gX (dC, dI) (tC kc) (wC ad kc sv) (zC ak) A s σ H locs) (hl : lv_has ls 2 [(0, .ref (ad 7)), (1, .int v1)]) (hg : f_X2_keepMeasures_b116 rec2 v1 σ = some (r, τ)) : W p l e R s m args below meth c H locs 0 0 (MQ below (gQv (dC, dI) (tC kc) (wC ad kc sv) A r τ) args s 0 0 A) (F0 m 116 ls []) := by
  have hx := S.1
  have hb := S.2.1
  have hown := S.2.2.2.1
  have hu := S.2.2.2.2
  unfold f_X2_keepMeasures_b116 at hg
  refine lv_iinc (v := (v1 + 1)) (lv' := [(1, .int (v1 + 1)), (0, .ref (ad 7))]) hx hb dX2_keepMeasures_116 hl (k := 1) rfl (by rfl) (by decide) rfl (fun ls hl => ?_)
  refine lv_goto (tgt := 2) hx hb dX2_keepMeasures_119 (by decide) ?_
  exact hrec2 _ _ _ _ _ X (lv_sub hl [1, 0] rfl) hg
set_option maxHeartbeats 4000000 in
set_option maxRecDepth 100000 in
theorem w_X2_keepMeasures_b93 {σ : S5} {rec2 : Int32 → S5 → Option (Unit × S5)} {v1 : Int32} {H : Heap} {locs : List Loc} {ls : Array Slot} (S : CallFix p m c cX2_keepMeasures 2 s args uG RX2) (hr : meth.sig.returnType = none) (hk : meth.locks = false) (hR : 1 ≤ R.frames ∧ 22 ≤ R.locals)
    (hrec2 : ∀ (v1 : Int32) (σ : S5) (H : Heap) (locs : List Loc) (ls : Array Slot), gX (dC, dI) (tC kc) (wC ad kc sv) (zC ak) A s σ H locs → lv_has ls 2 [(0, .ref (ad 7)), (1, .int v1)] → rec2 v1 σ = some (r, τ) → W p l e R s m args below meth c H locs 0 0 (MQ below (gQv (dC, dI) (tC kc) (wC ad kc sv) A r τ) args s 0 0 A) (F0 m 2 ls []))
    (X : gX (dC, dI) (tC kc) (wC ad kc sv) (zC ak) A s σ H locs) (hl : lv_has ls 2 [(0, .ref (ad 7)), (1, .int v1)]) (hg : f_X2_keepMeasures_b93 rec2 v1 σ = some (r, τ)) : W p l e R s m args below meth c H locs 0 0 (MQ below (gQv (dC, dI) (tC kc) (wC ad kc sv) A r τ) args s 0 0 A) (F0 m 93 ls []) := by
  have hx := S.1
  have hb := S.2.1
  have hown := S.2.2.2.1
  have hu := S.2.2.2.2
  unfold f_X2_keepMeasures_b93 at hg
  refine lv_aload_n hx hb dX2_keepMeasures_93 rfl (lv_at hl 0 rfl) ?_
  refine lv_bipush (v := 8) hx hb dX2_keepMeasures_94 (by decide) ?_
  refine lv_aload_n hx hb dX2_keepMeasures_96 rfl (lv_at hl 0 rfl) ?_
  refine wcgR_7_2 S X mG_577 dX2_keepMeasures_97 ?_
  refine wcgR_4_5 S X mG_453 dX2_keepMeasures_100 ?_
  refine lv_aload_n hx hb dX2_keepMeasures_103 rfl (lv_at hl 0 rfl) ?_
  refine wcgR_7_1 S X mG_576 dX2_keepMeasures_104 ?_
  refine wcgR_2_12 S X mG_328 dX2_keepMeasures_107 ?_
  refine lv_iload_n hx hb dX2_keepMeasures_110 rfl (lv_at hl 1 rfl) ?_
  obtain ⟨hi111, hg⟩ := gd_some hg
  refine wclA_8 (v := (xA σ 8 v1)) S X hi111 rfl dX2_keepMeasures_111 ?_
  obtain ⟨hi112, hg⟩ := gd_some hg
  refine wclA_24 (v := (xA σ 24 (xA σ 8 v1))) S X hi112 rfl dX2_keepMeasures_112 ?_
  obtain ⟨r113, τ113, hq113, hg⟩ := bd_some hg
  refine gc_Vv (As := [.int 8, .int (xA σ 24 (xA σ 8 v1))]) (rest := []) (q0 := 7) (ci := 5) S X (k2_X2_refuse l dC dI ad kc sv hq113 H.size) cw_X2_refuse mG_1231 rfl rfl rfl rfl rfl hl.1 (Nat.le_of_ble_eq_true rfl) dX2_keepMeasures_113 ⟨by omega, by omega⟩ (fun H locs X => ?_)
  exact w_X2_keepMeasures_b116 S hr hk hR hrec2 X (lv_sub hl [0, 1] rfl) hg
set_option maxHeartbeats 4000000 in
set_option maxRecDepth 100000 in
theorem w_X2_keepMeasures_B2 {σ : S5} {rec2 : Int32 → S5 → Option (Unit × S5)} {v1 : Int32} {H : Heap} {locs : List Loc} {ls : Array Slot} (S : CallFix p m c cX2_keepMeasures 2 s args uG RX2) (hr : meth.sig.returnType = none) (hk : meth.locks = false) (hR : 1 ≤ R.frames ∧ 22 ≤ R.locals)
    (hrec2 : ∀ (v1 : Int32) (σ : S5) (H : Heap) (locs : List Loc) (ls : Array Slot), gX (dC, dI) (tC kc) (wC ad kc sv) (zC ak) A s σ H locs → lv_has ls 2 [(0, .ref (ad 7)), (1, .int v1)] → rec2 v1 σ = some (r, τ) → W p l e R s m args below meth c H locs 0 0 (MQ below (gQv (dC, dI) (tC kc) (wC ad kc sv) A r τ) args s 0 0 A) (F0 m 2 ls []))
    (X : gX (dC, dI) (tC kc) (wC ad kc sv) (zC ak) A s σ H locs) (hl : lv_has ls 2 [(0, .ref (ad 7)), (1, .int v1)]) (hg : f_X2_keepMeasures_B2 rec2 v1 σ = some (r, τ)) : W p l e R s m args below meth c H locs 0 0 (MQ below (gQv (dC, dI) (tC kc) (wC ad kc sv) A r τ) args s 0 0 A) (F0 m 2 ls []) := by
  have hx := S.1
  have hb := S.2.1
  have hown := S.2.2.2.1
  have hu := S.2.2.2.2
  unfold f_X2_keepMeasures_B2 at hg
  refine lv_iload_n hx hb dX2_keepMeasures_2 rfl (lv_at hl 1 rfl) ?_
  refine lv_aload_n hx hb dX2_keepMeasures_3 rfl (lv_at hl 0 rfl) ?_
  refine wcgR_7_1 S X mG_576 dX2_keepMeasures_4 ?_
  refine wcgI_6 (v := (gI σ 6)) S X mG_302 rfl dX2_keepMeasures_7 ?_
  refine lv_icmp_ge (tgt := 122) hx hb dX2_keepMeasures_10 (by decide) (fun c10 => ?_) (fun c10 => ?_)
  · have hg := (if_pos c10).symm.trans hg
    obtain ⟨-, rfl⟩ := fin_some hg
    exact gr_v S hr hk X dX2_keepMeasures_122
  · have hg := (if_neg c10).symm.trans hg
    refine lv_aload_n hx hb dX2_keepMeasures_13 rfl (lv_at hl 0 rfl) ?_
    refine wcgR_7_1 S X mG_576 dX2_keepMeasures_14 ?_
    refine wcgR_2_13 S X mG_330 dX2_keepMeasures_17 ?_
    refine lv_iload_n hx hb dX2_keepMeasures_20 rfl (lv_at hl 1 rfl) ?_
    refine lv_aload_n hx hb dX2_keepMeasures_21 rfl (lv_at hl 0 rfl) ?_
    refine wcgR_7_0 S X mG_575 dX2_keepMeasures_22 ?_
    refine wcgR_3_6 S X mG_409 dX2_keepMeasures_25 ?_
    refine lv_aload_n hx hb dX2_keepMeasures_28 rfl (lv_at hl 0 rfl) ?_
    refine wcgR_7_1 S X mG_576 dX2_keepMeasures_29 ?_
    refine wcgR_2_11 S X mG_325 dX2_keepMeasures_32 ?_
    refine lv_iload_n hx hb dX2_keepMeasures_35 rfl (lv_at hl 1 rfl) ?_
    obtain ⟨hi36, hg⟩ := gd_some hg
    refine wclA_7 (v := (xA σ 7 v1)) S X hi36 rfl dX2_keepMeasures_36 ?_
    obtain ⟨hi37, hg⟩ := gd_some hg
    refine wclA_19 (v := (xA σ 19 (xA σ 7 v1))) S X hi37 rfl dX2_keepMeasures_37 ?_
    obtain ⟨hi38, hg⟩ := gd_some hg
    refine wcsA_9 S X hi38 dX2_keepMeasures_38 (fun H locs X => ?_)
    refine lv_aload_n hx hb dX2_keepMeasures_39 rfl (lv_at hl 0 rfl) ?_
    refine wcgR_7_1 S X mG_576 dX2_keepMeasures_40 ?_
    refine wcgR_2_14 S X mG_332 dX2_keepMeasures_43 ?_
    refine lv_iload_n hx hb dX2_keepMeasures_46 rfl (lv_at hl 1 rfl) ?_
    refine lv_aload_n hx hb dX2_keepMeasures_47 rfl (lv_at hl 0 rfl) ?_
    refine wcgR_7_0 S X mG_575 dX2_keepMeasures_48 ?_
    refine wcgR_3_5 S X mG_407 dX2_keepMeasures_51 ?_
    refine lv_aload_n hx hb dX2_keepMeasures_54 rfl (lv_at hl 0 rfl) ?_
    refine wcgR_7_1 S X mG_576 dX2_keepMeasures_55 ?_
    refine wcgR_2_11 S X mG_325 dX2_keepMeasures_58 ?_
    refine lv_iload_n hx hb dX2_keepMeasures_61 rfl (lv_at hl 1 rfl) ?_
    obtain ⟨hi62, hg⟩ := gd_some hg
    refine wclA_7 (v := (xA σ 7 v1)) S X hi62 rfl dX2_keepMeasures_62 ?_
    obtain ⟨hi63, hg⟩ := gd_some hg
    refine wclA_18 (v := (xA σ 18 (xA σ 7 v1))) S X hi63 rfl dX2_keepMeasures_63 ?_
    obtain ⟨hi64, hg⟩ := gd_some hg
    refine wcsA_10 S X hi64 dX2_keepMeasures_64 (fun H locs X => ?_)
    refine lv_aload_n hx hb dX2_keepMeasures_65 rfl (lv_at hl 0 rfl) ?_
    refine wcgR_7_1 S X mG_576 dX2_keepMeasures_66 ?_
    refine wcgR_2_14 S X mG_332 dX2_keepMeasures_69 ?_
    refine lv_iload_n hx hb dX2_keepMeasures_72 rfl (lv_at hl 1 rfl) ?_
    obtain ⟨hi73, hg⟩ := gd_some hg
    refine wclA_10 (v := (xA (pA σ 10 v1 (xA σ 18 (xA σ 7 v1))) 10 v1)) S X hi73 rfl dX2_keepMeasures_73 ?_
    refine lv_bipush (v := 40) hx hb dX2_keepMeasures_74 (by decide) ?_
    refine lv_icmp_gt (tgt := 93) hx hb dX2_keepMeasures_76 (by decide) (fun c76 => ?_) (fun c76 => ?_)
    · have hg := (if_pos c76).symm.trans hg
      exact w_X2_keepMeasures_b93 S hr hk hR hrec2 X (lv_sub hl [0, 1] rfl) hg
    · have hg := (if_neg c76).symm.trans hg
      refine lv_aload_n hx hb dX2_keepMeasures_79 rfl (lv_at hl 0 rfl) ?_
      refine wcgR_7_1 S X mG_576 dX2_keepMeasures_80 ?_
      refine wcgR_2_10 S X mG_321 dX2_keepMeasures_83 ?_
      refine lv_iload_n hx hb dX2_keepMeasures_86 rfl (lv_at hl 1 rfl) ?_
      obtain ⟨hi87, hg⟩ := gd_some hg
      refine wclA_6 (v := (xA σ 6 v1)) S X hi87 rfl dX2_keepMeasures_87 ?_
      refine lv_bipush (v := 40) hx hb dX2_keepMeasures_88 (by decide) ?_
      refine lv_icmp_le (tgt := 116) hx hb dX2_keepMeasures_90 (by decide) (fun c90 => ?_) (fun c90 => ?_)
      · have hg := (if_pos c90).symm.trans hg
        exact w_X2_keepMeasures_b116 S hr hk hR hrec2 X (lv_sub hl [0, 1] rfl) hg
      · have hg := (if_neg c90).symm.trans hg
        exact w_X2_keepMeasures_b93 S hr hk hR hrec2 X (lv_sub hl [0, 1] rfl) hg
set_option maxHeartbeats 4000000 in
set_option maxRecDepth 100000 in
theorem w_X2_keepMeasures_L2 (S : CallFix p m c cX2_keepMeasures 2 s args uG RX2) (hr : meth.sig.returnType = none) (hk : meth.locks = false) (hR : 1 ≤ R.frames ∧ 22 ≤ R.locals) : ∀ (n : Nat) (v1 : Int32) (σ : S5) (H : Heap) (locs : List Loc) (ls : Array Slot), gX (dC, dI) (tC kc) (wC ad kc sv) (zC ak) A s σ H locs → lv_has ls 2 [(0, .ref (ad 7)), (1, .int v1)] → f_X2_keepMeasures_L2  n v1 σ = some (r, τ) → W p l e R s m args below meth c H locs 0 0 (MQ below (gQv (dC, dI) (tC kc) (wC ad kc sv) A r τ) args s 0 0 A) (F0 m 2 ls []) := by
  intro n
  induction n with
  | zero => intro v1 σ H locs ls X hl hg; cases hg
  | succ n ih => intro v1 σ H locs ls X hl hg; exact w_X2_keepMeasures_B2 S hr hk hR ih X hl hg
set_option maxHeartbeats 4000000 in
set_option maxRecDepth 100000 in
theorem w_X2_keepMeasures {σ : S5}  {H : Heap} {locs : List Loc} {ls : Array Slot} (S : CallFix p m c cX2_keepMeasures 2 s args uG RX2) (hr : meth.sig.returnType = none) (hk : meth.locks = false) (hR : 1 ≤ R.frames ∧ 22 ≤ R.locals)
    (X : gX (dC, dI) (tC kc) (wC ad kc sv) (zC ak) A s σ H locs) (hl : lv_has ls 2 [(0, .ref (ad 7))]) (hg : f_X2_keepMeasures  σ = some (r, τ)) : W p l e R s m args below meth c H locs 0 0 (MQ below (gQv (dC, dI) (tC kc) (wC ad kc sv) A r τ) args s 0 0 A) (F0 m 0 ls []) := by
  have hx := S.1
  have hb := S.2.1
  have hown := S.2.2.2.1
  have hu := S.2.2.2.2
  unfold f_X2_keepMeasures at hg
  refine lv_iconst (v := 0) hx hb dX2_keepMeasures_0 (by decide) ?_
  refine lv_istore_n (lv' := [(1, .int 0), (0, .ref (ad 7))]) hx hb dX2_keepMeasures_1 rfl hl (by decide) rfl (fun ls hl => ?_)
  exact w_X2_keepMeasures_L2 S hr hk hR _ _ _ _ _ _ X (lv_sub hl [1, 0] rfl) hg
end MX2_keepMeasures
set_option maxRecDepth 100000 in
theorem k2_X2_keepMeasures (l : Launch) (dC : Nat → ClassId) (dI : Nat → Nat → Nat) {ak : Nat → Nat} (ad : Nat → Nat) (kc : Nat → ClassId) (sv : Value) {σ τ : S5}  {r : Unit} (hg : f_X2_keepMeasures  σ = some (r, τ)) (sz : Nat) : Met l yX2_keepMeasures (Cond.code yX2_keepMeasures cX2_keepMeasures 2 none :: uG) { frames := 1, cells := 0, slots := 0, locals := 22 } (gPc (dC, dI) (tC kc) (wC ad kc sv) (zC ak) [.ref (ad 7)] σ sz) (gQv (dC, dI) (tC kc) (wC ad kc sv) (va_A (wC ad kc sv σ) sz) r τ) 0 0 (va_A (wC ad kc sv σ) sz) :=
  g_start (by decide) (Nat.le_of_ble_eq_true rfl) (fun p e s m below meth c ls S hr hk X hl => w_X2_keepMeasures S hr hk ⟨Nat.le_refl _, Nat.le_refl _⟩ X hl hg)
section MX2_lift
variable {p : Program} {l : Launch} {e : Env} {R : Room} {s : State} {m : MethodId} {args : Array Value} {below : List Frame} {meth : Method} {c : Code} {dC : Nat → ClassId} {dI : Nat → Nat → Nat} {ak : Nat → Nat} {A : Nat → Prop} {ad : Nat → Nat} {kc : Nat → ClassId} {sv : Value} {r : Unit} {τ : S5}
set_option maxHeartbeats 4000000 in
set_option maxRecDepth 100000 in
theorem w_X2_lift_b44 {σ : S5}  {H : Heap} {locs : List Loc} {ls : Array Slot} (S : CallFix p m c cX2_lift 1 s args uG RX2) (hr : meth.sig.returnType = none) (hk : meth.locks = false) (hR : 6 ≤ R.frames ∧ 141 ≤ R.locals)
    (X : gX (dC, dI) (tC kc) (wC ad kc sv) (zC ak) A s σ H locs) (hl : lv_has ls 1 [(0, .ref (ad 7))]) (hg : f_X2_lift_b44  σ = some (r, τ)) : W p l e R s m args below meth c H locs 0 0 (MQ below (gQv (dC, dI) (tC kc) (wC ad kc sv) A r τ) args s 0 0 A) (F0 m 44 ls []) := by
  have hx := S.1
  have hb := S.2.1
  have hown := S.2.2.2.1
  have hu := S.2.2.2.2
  unfold f_X2_lift_b44 at hg
  refine lv_aload_n hx hb dX2_lift_44 rfl (lv_at hl 0 rfl) ?_
  refine wcgI_20 (v := (gI σ 20)) S X mG_578 rfl dX2_lift_45 ?_
  refine lv_if_ne (tgt := 67) hx hb dX2_lift_48 (by decide) (fun c48 => ?_) (fun c48 => ?_)
  · have hg := (if_neg c48).symm.trans hg
    obtain ⟨-, rfl⟩ := fin_some hg
    exact gr_v S hr hk X dX2_lift_67
  · have hg := (if_pos c48).symm.trans hg
    refine lv_aload_n hx hb dX2_lift_51 rfl (lv_at hl 0 rfl) ?_
    obtain ⟨r52, τ52, hq52, hg⟩ := bd_some hg
    refine gc_Vv (As := []) (rest := []) (q0 := 7) (ci := 5) S X (k2_X2_numberVariables l dC dI ad kc sv hq52 H.size) cw_X2_numberVariables mG_1260 rfl rfl rfl rfl rfl hl.1 (Nat.le_of_ble_eq_true rfl) dX2_lift_52 ⟨by omega, by omega⟩ (fun H locs X => ?_)
    refine lv_aload_n hx hb dX2_lift_55 rfl (lv_at hl 0 rfl) ?_
    obtain ⟨r56, τ56, hq56, hg⟩ := bd_some hg
    refine gc_Vv (As := []) (rest := []) (q0 := 7) (ci := 5) S X (k2_X2_plantUses l dC dI ad kc sv hq56 H.size) cw_X2_plantUses mG_1264 rfl rfl rfl rfl rfl hl.1 (Nat.le_of_ble_eq_true rfl) dX2_lift_56 ⟨by omega, by omega⟩ (fun H locs X => ?_)
    refine lv_aload_n hx hb dX2_lift_59 rfl (lv_at hl 0 rfl) ?_
    obtain ⟨r60, τ60, hq60, hg⟩ := bd_some hg
    refine gc_Vv (As := []) (rest := []) (q0 := 7) (ci := 5) S X (k2_X2_plantNodes l dC dI ad kc sv hq60 H.size) cw_X2_plantNodes mG_1277 rfl rfl rfl rfl rfl hl.1 (Nat.le_of_ble_eq_true rfl) dX2_lift_60 ⟨by omega, by omega⟩ (fun H locs X => ?_)
    refine lv_aload_n hx hb dX2_lift_63 rfl (lv_at hl 0 rfl) ?_
    obtain ⟨r64, τ64, hq64, hg⟩ := bd_some hg
    refine gc_Vv (As := []) (rest := []) (q0 := 7) (ci := 5) S X (k2_X2_keepMeasures l dC dI ad kc sv hq64 H.size) cw_X2_keepMeasures mG_1310 rfl rfl rfl rfl rfl hl.1 (Nat.le_of_ble_eq_true rfl) dX2_lift_64 ⟨by omega, by omega⟩ (fun H locs X => ?_)
    obtain ⟨-, rfl⟩ := fin_some hg
    exact gr_v S hr hk X dX2_lift_67
set_option maxHeartbeats 4000000 in
set_option maxRecDepth 100000 in
theorem w_X2_lift_b33 {σ : S5}  {H : Heap} {locs : List Loc} {ls : Array Slot} (S : CallFix p m c cX2_lift 1 s args uG RX2) (hr : meth.sig.returnType = none) (hk : meth.locks = false) (hR : 6 ≤ R.frames ∧ 141 ≤ R.locals)
    (X : gX (dC, dI) (tC kc) (wC ad kc sv) (zC ak) A s σ H locs) (hl : lv_has ls 1 [(0, .ref (ad 7))]) (hg : f_X2_lift_b33  σ = some (r, τ)) : W p l e R s m args below meth c H locs 0 0 (MQ below (gQv (dC, dI) (tC kc) (wC ad kc sv) A r τ) args s 0 0 A) (F0 m 33 ls []) := by
  have hx := S.1
  have hb := S.2.1
  have hown := S.2.2.2.1
  have hu := S.2.2.2.2
  unfold f_X2_lift_b33 at hg
  refine lv_aload_n hx hb dX2_lift_33 rfl (lv_at hl 0 rfl) ?_
  refine wcgI_20 (v := (gI σ 20)) S X mG_578 rfl dX2_lift_34 ?_
  refine lv_if_ne (tgt := 44) hx hb dX2_lift_37 (by decide) (fun c37 => ?_) (fun c37 => ?_)
  · have hg := (if_neg c37).symm.trans hg
    exact w_X2_lift_b44 S hr hk hR X (lv_sub hl [0] rfl) hg
  · have hg := (if_pos c37).symm.trans hg
    refine lv_aload_n hx hb dX2_lift_40 rfl (lv_at hl 0 rfl) ?_
    obtain ⟨r41, τ41, hq41, hg⟩ := bd_some hg
    refine gc_Vv (As := []) (rest := []) (q0 := 7) (ci := 5) S X (k2_X2_findMain l dC dI ad kc sv hq41 H.size) cw_X2_findMain mG_1255 rfl rfl rfl rfl rfl hl.1 (Nat.le_of_ble_eq_true rfl) dX2_lift_41 ⟨by omega, by omega⟩ (fun H locs X => ?_)
    exact w_X2_lift_b44 S hr hk hR X (lv_sub hl [0] rfl) hg
set_option maxHeartbeats 4000000 in
set_option maxRecDepth 100000 in
theorem w_X2_lift {σ : S5}  {H : Heap} {locs : List Loc} {ls : Array Slot} (S : CallFix p m c cX2_lift 1 s args uG RX2) (hr : meth.sig.returnType = none) (hk : meth.locks = false) (hR : 6 ≤ R.frames ∧ 141 ≤ R.locals)
    (X : gX (dC, dI) (tC kc) (wC ad kc sv) (zC ak) A s σ H locs) (hl : lv_has ls 1 [(0, .ref (ad 7))]) (hg : f_X2_lift  σ = some (r, τ)) : W p l e R s m args below meth c H locs 0 0 (MQ below (gQv (dC, dI) (tC kc) (wC ad kc sv) A r τ) args s 0 0 A) (F0 m 0 ls []) := by
  have hx := S.1
  have hb := S.2.1
  have hown := S.2.2.2.1
  have hu := S.2.2.2.2
  unfold f_X2_lift at hg
  refine lv_aload_n hx hb dX2_lift_0 rfl (lv_at hl 0 rfl) ?_
  refine lv_iconst (v := 0) hx hb dX2_lift_1 (by decide) ?_
  refine wcpI_20 S X mG_578 dX2_lift_2 (fun H locs X => ?_)
  refine lv_aload_n hx hb dX2_lift_5 rfl (lv_at hl 0 rfl) ?_
  refine lv_iconst (v := (-1)) hx hb dX2_lift_6 (by decide) ?_
  refine wcpI_21 S X mG_580 dX2_lift_7 (fun H locs X => ?_)
  refine lv_aload_n hx hb dX2_lift_10 rfl (lv_at hl 0 rfl) ?_
  obtain ⟨r11, τ11, hq11, hg⟩ := bd_some hg
  refine gc_Vv (As := []) (rest := []) (q0 := 7) (ci := 5) S X (k2_X2_numberFunctions l dC dI ad kc sv hq11 H.size) cw_X2_numberFunctions mG_1213 rfl rfl rfl rfl rfl hl.1 (Nat.le_of_ble_eq_true rfl) dX2_lift_11 ⟨by omega, by omega⟩ (fun H locs X => ?_)
  refine lv_aload_n hx hb dX2_lift_14 rfl (lv_at hl 0 rfl) ?_
  obtain ⟨r15, τ15, hq15, hg⟩ := bd_some hg
  refine gc_Vv (As := []) (rest := []) (q0 := 7) (ci := 5) S X (k2_X2_resolveUses l dC dI ad kc sv hq15 H.size) cw_X2_resolveUses mG_1222 rfl rfl rfl rfl rfl hl.1 (Nat.le_of_ble_eq_true rfl) dX2_lift_15 ⟨by omega, by omega⟩ (fun H locs X => ?_)
  refine lv_aload_n hx hb dX2_lift_18 rfl (lv_at hl 0 rfl) ?_
  refine wcgI_20 (v := (gI τ15 20)) S X mG_578 rfl dX2_lift_19 ?_
  refine lv_if_ne (tgt := 33) hx hb dX2_lift_22 (by decide) (fun c22 => ?_) (fun c22 => ?_)
  · have hg := (if_neg c22).symm.trans hg
    exact w_X2_lift_b33 S hr hk hR X (lv_sub hl [0] rfl) hg
  · have hg := (if_pos c22).symm.trans hg
    refine lv_aload_n hx hb dX2_lift_25 rfl (lv_at hl 0 rfl) ?_
    obtain ⟨r26, τ26, hq26, hg⟩ := bd_some hg
    refine gc_Vv (As := []) (rest := []) (q0 := 7) (ci := 5) S X (k2_X2_findFree l dC dI ad kc sv hq26 H.size) cw_X2_findFree mG_1235 rfl rfl rfl rfl rfl hl.1 (Nat.le_of_ble_eq_true rfl) dX2_lift_26 ⟨by omega, by omega⟩ (fun H locs X => ?_)
    refine lv_aload_n hx hb dX2_lift_29 rfl (lv_at hl 0 rfl) ?_
    obtain ⟨r30, τ30, hq30, hg⟩ := bd_some hg
    refine gc_Vv (As := []) (rest := []) (q0 := 7) (ci := 5) S X (k2_X2_refuseManyParameters l dC dI ad kc sv hq30 H.size) cw_X2_refuseManyParameters mG_1251 rfl rfl rfl rfl rfl hl.1 (Nat.le_of_ble_eq_true rfl) dX2_lift_30 ⟨by omega, by omega⟩ (fun H locs X => ?_)
    exact w_X2_lift_b33 S hr hk hR X (lv_sub hl [0] rfl) hg
end MX2_lift
set_option maxRecDepth 100000 in
theorem k2_X2_lift (l : Launch) (dC : Nat → ClassId) (dI : Nat → Nat → Nat) {ak : Nat → Nat} (ad : Nat → Nat) (kc : Nat → ClassId) (sv : Value) {σ τ : S5}  {r : Unit} (hg : f_X2_lift  σ = some (r, τ)) (sz : Nat) : Met l yX2_lift (Cond.code yX2_lift cX2_lift 1 none :: uG) { frames := 6, cells := 0, slots := 0, locals := 141 } (gPc (dC, dI) (tC kc) (wC ad kc sv) (zC ak) [.ref (ad 7)] σ sz) (gQv (dC, dI) (tC kc) (wC ad kc sv) (va_A (wC ad kc sv σ) sz) r τ) 0 0 (va_A (wC ad kc sv σ) sz) :=
  g_start (by decide) (Nat.le_of_ble_eq_true rfl) (fun p e s m below meth c ls S hr hk X hl => w_X2_lift S hr hk ⟨Nat.le_refl _, Nat.le_refl _⟩ X hl hg)

/-! THE CLASS: words of fields, calls of inherited methods, by program (wip/whole/gen/p61.py) -/
theorem wf_Rq_9 : Cond.fieldLink "OriginDesk$Request" 9 "OriginDesk$Request" "method" "I" ∈ gw := gw_i 45 (by decide +kernel) (by decide +kernel)
theorem wf_Dk_113 : Cond.fieldLink "OriginDesk" 113 "OriginDesk$Request" "method" "I" ∈ gw := gw_i 46 (by decide +kernel) (by decide +kernel)
theorem wf_Rq_17 : Cond.fieldLink "OriginDesk$Request" 17 "OriginDesk$Request" "texts" "[[I" ∈ gw := gw_i 47 (by decide +kernel) (by decide +kernel)
theorem wf_Rq_20 : Cond.fieldLink "OriginDesk$Request" 20 "OriginDesk$Request" "sizes" "[I" ∈ gw := gw_i 49 (by decide +kernel) (by decide +kernel)
theorem wf_Ac_15 : Cond.fieldLink "OriginDesk$Accept" 15 "OriginDesk$Accept" "quality" "I" ∈ gw := gw_i 68 (by decide +kernel) (by decide +kernel)
theorem wf_Dk_194 : Cond.fieldLink "OriginDesk" 194 "OriginDesk$Accept" "quality" "I" ∈ gw := gw_i 69 (by decide +kernel) (by decide +kernel)
theorem wf_Ac_19 : Cond.fieldLink "OriginDesk$Accept" 19 "OriginDesk$Accept" "mostTold" "I" ∈ gw := gw_i 70 (by decide +kernel) (by decide +kernel)
theorem wf_Ac_67 : Cond.fieldLink "OriginDesk$Accept" 67 "OriginDesk$Accept" "fits" "Z" ∈ gw := gw_i 71 (by decide +kernel) (by decide +kernel)
theorem wf_Ac_71 : Cond.fieldLink "OriginDesk$Accept" 71 "OriginDesk$Accept" "told" "I" ∈ gw := gw_i 72 (by decide +kernel) (by decide +kernel)
theorem wf_Ac_74 : Cond.fieldLink "OriginDesk$Accept" 74 "OriginDesk$Accept" "weight" "I" ∈ gw := gw_i 73 (by decide +kernel) (by decide +kernel)
theorem wf_Rd_9 : Cond.fieldLink "OriginDesk$Reader" 9 "OriginDesk$Reader" "row" "[I" ∈ gw := gw_i 74 (by decide +kernel) (by decide +kernel)
theorem wf_Rd_22 : Cond.fieldLink "OriginDesk$Reader" 22 "OriginDesk$Reader" "size" "I" ∈ gw := gw_i 75 (by decide +kernel) (by decide +kernel)
theorem wf_Rd_18 : Cond.fieldLink "OriginDesk$Reader" 18 "OriginDesk$Reader" "at" "I" ∈ gw := gw_i 76 (by decide +kernel) (by decide +kernel)
theorem wf_Rd_15 : Cond.fieldLink "OriginDesk$Reader" 15 "OriginDesk$Reader" "said" "[I" ∈ gw := gw_i 77 (by decide +kernel) (by decide +kernel)
theorem wf_Rd_59 : Cond.fieldLink "OriginDesk$Reader" 59 "OriginDesk$Reader" "saidSize" "I" ∈ gw := gw_i 78 (by decide +kernel) (by decide +kernel)
theorem wf_La_15 : Cond.fieldLink "OriginDesk$Languages" 15 "OriginDesk$Languages" "quality" "I" ∈ gw := gw_i 106 (by decide +kernel) (by decide +kernel)
theorem wf_Dk_203 : Cond.fieldLink "OriginDesk" 203 "OriginDesk$Languages" "quality" "I" ∈ gw := gw_i 107 (by decide +kernel) (by decide +kernel)
theorem wf_La_19 : Cond.fieldLink "OriginDesk$Languages" 19 "OriginDesk$Languages" "longest" "I" ∈ gw := gw_i 108 (by decide +kernel) (by decide +kernel)
theorem wf_Tg_19 : Cond.fieldLink "OriginDesk$Tags" 19 "OriginDesk$Tags" "star" "Z" ∈ gw := gw_i 125 (by decide +kernel) (by decide +kernel)
theorem wf_Dk_234 : Cond.fieldLink "OriginDesk" 234 "OriginDesk$Tags" "star" "Z" ∈ gw := gw_i 126 (by decide +kernel) (by decide +kernel)
theorem wf_Tg_43 : Cond.fieldLink "OriginDesk$Tags" 43 "OriginDesk$Tags" "same" "Z" ∈ gw := gw_i 127 (by decide +kernel) (by decide +kernel)
theorem wf_Dk_248 : Cond.fieldLink "OriginDesk" 248 "OriginDesk$Tags" "same" "Z" ∈ gw := gw_i 128 (by decide +kernel) (by decide +kernel)
theorem wf_Tg_46 : Cond.fieldLink "OriginDesk$Tags" 46 "OriginDesk$Tags" "strong" "Z" ∈ gw := gw_i 129 (by decide +kernel) (by decide +kernel)
theorem wf_Dk_238 : Cond.fieldLink "OriginDesk" 238 "OriginDesk$Tags" "strong" "Z" ∈ gw := gw_i 130 (by decide +kernel) (by decide +kernel)
theorem wf_Ra_9 : Cond.fieldLink "OriginDesk$Ranges" 9 "OriginDesk$Ranges" "firsts" "[I" ∈ gw := gw_i 149 (by decide +kernel) (by decide +kernel)
theorem wf_Rs_45 : Cond.fieldLink "OriginDesk$Response" 45 "OriginDesk$Ranges" "firsts" "[I" ∈ gw := gw_i 150 (by decide +kernel) (by decide +kernel)
theorem wf_Ra_15 : Cond.fieldLink "OriginDesk$Ranges" 15 "OriginDesk$Ranges" "lasts" "[I" ∈ gw := gw_i 151 (by decide +kernel) (by decide +kernel)
theorem wf_Rs_46 : Cond.fieldLink "OriginDesk$Response" 46 "OriginDesk$Ranges" "lasts" "[I" ∈ gw := gw_i 152 (by decide +kernel) (by decide +kernel)
theorem wf_Ra_22 : Cond.fieldLink "OriginDesk$Ranges" 22 "OriginDesk$Ranges" "specs" "I" ∈ gw := gw_i 153 (by decide +kernel) (by decide +kernel)
theorem wf_Dk_217 : Cond.fieldLink "OriginDesk" 217 "OriginDesk$Ranges" "specs" "I" ∈ gw := gw_i 154 (by decide +kernel) (by decide +kernel)
theorem wf_Ra_26 : Cond.fieldLink "OriginDesk$Ranges" 26 "OriginDesk$Ranges" "kept" "I" ∈ gw := gw_i 155 (by decide +kernel) (by decide +kernel)
theorem wf_Rs_37 : Cond.fieldLink "OriginDesk$Response" 37 "OriginDesk$Ranges" "kept" "I" ∈ gw := gw_i 156 (by decide +kernel) (by decide +kernel)
theorem wf_Dk_224 : Cond.fieldLink "OriginDesk" 224 "OriginDesk$Ranges" "kept" "I" ∈ gw := gw_i 157 (by decide +kernel) (by decide +kernel)
theorem wf_Rs_9 : Cond.fieldLink "OriginDesk$Response" 9 "OriginDesk$Response" "code" "I" ∈ gw := gw_i 211 (by decide +kernel) (by decide +kernel)
theorem wf_Dk_120 : Cond.fieldLink "OriginDesk" 120 "OriginDesk$Response" "code" "I" ∈ gw := gw_i 212 (by decide +kernel) (by decide +kernel)
theorem wf_Rs_29 : Cond.fieldLink "OriginDesk$Response" 29 "OriginDesk$Response" "subject" "LOriginDesk$Representation;" ∈ gw := gw_i 213 (by decide +kernel) (by decide +kernel)
theorem wf_Dk_123 : Cond.fieldLink "OriginDesk" 123 "OriginDesk$Response" "subject" "LOriginDesk$Representation;" ∈ gw := gw_i 214 (by decide +kernel) (by decide +kernel)
theorem wf_Rs_51 : Cond.fieldLink "OriginDesk$Response" 51 "OriginDesk$Response" "bodySize" "I" ∈ gw := gw_i 215 (by decide +kernel) (by decide +kernel)
theorem wf_Dk_130 : Cond.fieldLink "OriginDesk" 130 "OriginDesk$Response" "bodySize" "I" ∈ gw := gw_i 216 (by decide +kernel) (by decide +kernel)
theorem wf_Rs_42 : Cond.fieldLink "OriginDesk$Response" 42 "OriginDesk$Response" "partCount" "I" ∈ gw := gw_i 217 (by decide +kernel) (by decide +kernel)
theorem wf_Dk_137 : Cond.fieldLink "OriginDesk" 137 "OriginDesk$Response" "partCount" "I" ∈ gw := gw_i 218 (by decide +kernel) (by decide +kernel)
theorem wf_Rs_15 : Cond.fieldLink "OriginDesk$Response" 15 "OriginDesk$Response" "firsts" "[I" ∈ gw := gw_i 219 (by decide +kernel) (by decide +kernel)
theorem wf_Dk_144 : Cond.fieldLink "OriginDesk" 144 "OriginDesk$Response" "firsts" "[I" ∈ gw := gw_i 220 (by decide +kernel) (by decide +kernel)
theorem wf_Rs_19 : Cond.fieldLink "OriginDesk$Response" 19 "OriginDesk$Response" "lasts" "[I" ∈ gw := gw_i 221 (by decide +kernel) (by decide +kernel)
theorem wf_Dk_148 : Cond.fieldLink "OriginDesk" 148 "OriginDesk$Response" "lasts" "[I" ∈ gw := gw_i 222 (by decide +kernel) (by decide +kernel)
theorem wf_Rs_33 : Cond.fieldLink "OriginDesk$Response" 33 "OriginDesk$Response" "bodyless" "Z" ∈ gw := gw_i 223 (by decide +kernel) (by decide +kernel)
theorem wf_Rs_25 : Cond.fieldLink "OriginDesk$Response" 25 "OriginDesk$Response" "heading" "Ljava/lang/StringBuilder;" ∈ gw := gw_i 224 (by decide +kernel) (by decide +kernel)
theorem wf_Da_15 : Cond.fieldLink "OriginDesk$Dates" 15 "OriginDesk$Dates" "latestYear" "I" ∈ gw := gw_i 257 (by decide +kernel) (by decide +kernel)
theorem wf_Da_109 : Cond.fieldLink "OriginDesk$Dates" 109 "OriginDesk$Dates" "year" "I" ∈ gw := gw_i 258 (by decide +kernel) (by decide +kernel)
theorem wf_Da_106 : Cond.fieldLink "OriginDesk$Dates" 106 "OriginDesk$Dates" "month" "I" ∈ gw := gw_i 259 (by decide +kernel) (by decide +kernel)
theorem wf_Da_102 : Cond.fieldLink "OriginDesk$Dates" 102 "OriginDesk$Dates" "day" "I" ∈ gw := gw_i 260 (by decide +kernel) (by decide +kernel)
theorem wf_Da_112 : Cond.fieldLink "OriginDesk$Dates" 112 "OriginDesk$Dates" "second" "I" ∈ gw := gw_i 261 (by decide +kernel) (by decide +kernel)
theorem wf_Dk_11 : Cond.fieldLink "OriginDesk" 11 "OriginDesk" "shelf" "[LOriginDesk$Representation;" ∈ gw := gw_i 278 (by decide +kernel) (by decide +kernel)
theorem wf_Dk_86 : Cond.fieldLink "OriginDesk" 86 "OriginDesk" "count" "I" ∈ gw := gw_i 279 (by decide +kernel) (by decide +kernel)
theorem wf_Dk_18 : Cond.fieldLink "OriginDesk" 18 "OriginDesk" "asked" "LOriginDesk$Request;" ∈ gw := gw_i 280 (by decide +kernel) (by decide +kernel)
theorem wf_Dk_25 : Cond.fieldLink "OriginDesk" 25 "OriginDesk" "accept" "LOriginDesk$Accept;" ∈ gw := gw_i 281 (by decide +kernel) (by decide +kernel)
theorem wf_Dk_32 : Cond.fieldLink "OriginDesk" 32 "OriginDesk" "languages" "LOriginDesk$Languages;" ∈ gw := gw_i 282 (by decide +kernel) (by decide +kernel)
theorem wf_Dk_39 : Cond.fieldLink "OriginDesk" 39 "OriginDesk" "tags" "LOriginDesk$Tags;" ∈ gw := gw_i 283 (by decide +kernel) (by decide +kernel)
theorem wf_Dk_66 : Cond.fieldLink "OriginDesk" 66 "OriginDesk" "dates" "LOriginDesk$Dates;" ∈ gw := gw_i 284 (by decide +kernel) (by decide +kernel)
theorem wf_Dk_46 : Cond.fieldLink "OriginDesk" 46 "OriginDesk" "ranges" "LOriginDesk$Ranges;" ∈ gw := gw_i 285 (by decide +kernel) (by decide +kernel)
theorem wf_Dk_53 : Cond.fieldLink "OriginDesk" 53 "OriginDesk" "response" "LOriginDesk$Response;" ∈ gw := gw_i 286 (by decide +kernel) (by decide +kernel)
theorem wf_Dk_70 : Cond.fieldLink "OriginDesk" 70 "OriginDesk" "TYPES" "[LOriginDesk$MediaType;" ∈ gw := gw_i 310 (by decide +kernel) (by decide +kernel)
theorem wf_Dk_78 : Cond.fieldLink "OriginDesk" 78 "OriginDesk" "TONGUES" "[LOriginDesk$Language;" ∈ gw := gw_i 315 (by decide +kernel) (by decide +kernel)
theorem wf_Rp_7 : Cond.fieldLink "OriginDesk$Representation" 7 "OriginDesk$Representation" "number" "I" ∈ gw := gw_i 516 (by decide +kernel) (by decide +kernel)
theorem wf_Dk_127 : Cond.fieldLink "OriginDesk" 127 "OriginDesk$Representation" "number" "I" ∈ gw := gw_i 517 (by decide +kernel) (by decide +kernel)
theorem wf_Rp_13 : Cond.fieldLink "OriginDesk$Representation" 13 "OriginDesk$Representation" "type" "LOriginDesk$MediaType;" ∈ gw := gw_i 518 (by decide +kernel) (by decide +kernel)
theorem wf_Dk_191 : Cond.fieldLink "OriginDesk" 191 "OriginDesk$Representation" "type" "LOriginDesk$MediaType;" ∈ gw := gw_i 519 (by decide +kernel) (by decide +kernel)
theorem wf_Rp_17 : Cond.fieldLink "OriginDesk$Representation" 17 "OriginDesk$Representation" "language" "LOriginDesk$Language;" ∈ gw := gw_i 520 (by decide +kernel) (by decide +kernel)
theorem wf_Dk_197 : Cond.fieldLink "OriginDesk" 197 "OriginDesk$Representation" "language" "LOriginDesk$Language;" ∈ gw := gw_i 521 (by decide +kernel) (by decide +kernel)
theorem wf_Rp_21 : Cond.fieldLink "OriginDesk$Representation" 21 "OriginDesk$Representation" "size" "I" ∈ gw := gw_i 522 (by decide +kernel) (by decide +kernel)
theorem wf_Rs_64 : Cond.fieldLink "OriginDesk$Response" 64 "OriginDesk$Representation" "size" "I" ∈ gw := gw_i 523 (by decide +kernel) (by decide +kernel)
theorem wf_Dk_211 : Cond.fieldLink "OriginDesk" 211 "OriginDesk$Representation" "size" "I" ∈ gw := gw_i 524 (by decide +kernel) (by decide +kernel)
theorem wf_Rp_38 : Cond.fieldLink "OriginDesk$Representation" 38 "OriginDesk$Representation" "tagText" "Ljava/lang/String;" ∈ gw := gw_i 525 (by decide +kernel) (by decide +kernel)
theorem wf_Dk_230 : Cond.fieldLink "OriginDesk" 230 "OriginDesk$Representation" "tagText" "Ljava/lang/String;" ∈ gw := gw_i 526 (by decide +kernel) (by decide +kernel)
theorem wf_Rp_42 : Cond.fieldLink "OriginDesk$Representation" 42 "OriginDesk$Representation" "weak" "Z" ∈ gw := gw_i 527 (by decide +kernel) (by decide +kernel)
theorem wf_Dk_241 : Cond.fieldLink "OriginDesk" 241 "OriginDesk$Representation" "weak" "Z" ∈ gw := gw_i 528 (by decide +kernel) (by decide +kernel)
theorem wf_Rp_46 : Cond.fieldLink "OriginDesk$Representation" 46 "OriginDesk$Representation" "change" "J" ∈ gw := gw_i 529 (by decide +kernel) (by decide +kernel)
theorem wf_Dk_244 : Cond.fieldLink "OriginDesk" 244 "OriginDesk$Representation" "change" "J" ∈ gw := gw_i 530 (by decide +kernel) (by decide +kernel)
theorem wf_Dk_200 : Cond.fieldLink "OriginDesk" 200 "OriginDesk$Language" "NONE" "LOriginDesk$Language;" ∈ gw := gw_i 775 (by decide +kernel) (by decide +kernel)
theorem wf_Da_124 : Cond.fieldLink "OriginDesk$Dates" 124 "OriginDesk$Dates" "MONTH_DAYS" "[I" ∈ gw := gw_i 978 (by decide +kernel) (by decide +kernel)
theorem wf_Dk_154 : Cond.fieldLink "OriginDesk" 154 "OriginDesk$MediaType" "HTML" "LOriginDesk$MediaType;" ∈ gw := gw_i 1181 (by decide +kernel) (by decide +kernel)
theorem wf_Dk_164 : Cond.fieldLink "OriginDesk" 164 "OriginDesk$Language" "EN" "LOriginDesk$Language;" ∈ gw := gw_i 1183 (by decide +kernel) (by decide +kernel)
theorem wf_Mo_62 : Cond.fieldLink "OriginDeskModel" 62 "OriginDeskModel" "now" "J" ∈ gw := gw_i 1216 (by decide +kernel) (by decide +kernel)
theorem wf_Mo_97 : Cond.fieldLink "OriginDeskModel" 97 "OriginDeskModel" "count" "I" ∈ gw := gw_i 1217 (by decide +kernel) (by decide +kernel)
theorem wf_Mo_7 : Cond.fieldLink "OriginDeskModel" 7 "OriginDeskModel" "type" "[I" ∈ gw := gw_i 1218 (by decide +kernel) (by decide +kernel)
theorem wf_Mo_13 : Cond.fieldLink "OriginDeskModel" 13 "OriginDeskModel" "language" "[I" ∈ gw := gw_i 1219 (by decide +kernel) (by decide +kernel)
theorem wf_Mo_16 : Cond.fieldLink "OriginDeskModel" 16 "OriginDeskModel" "size" "[I" ∈ gw := gw_i 1220 (by decide +kernel) (by decide +kernel)
theorem wf_Mo_19 : Cond.fieldLink "OriginDeskModel" 19 "OriginDeskModel" "tag" "[I" ∈ gw := gw_i 1221 (by decide +kernel) (by decide +kernel)
theorem wf_Mo_22 : Cond.fieldLink "OriginDeskModel" 22 "OriginDeskModel" "weak" "[Z" ∈ gw := gw_i 1222 (by decide +kernel) (by decide +kernel)
theorem wf_Mo_26 : Cond.fieldLink "OriginDeskModel" 26 "OriginDeskModel" "change" "[J" ∈ gw := gw_i 1223 (by decide +kernel) (by decide +kernel)
theorem wf_Mo_100 : Cond.fieldLink "OriginDeskModel" 100 "OriginDeskModel" "method" "I" ∈ gw := gw_i 1224 (by decide +kernel) (by decide +kernel)
theorem wf_Mo_30 : Cond.fieldLink "OriginDeskModel" 30 "OriginDeskModel" "text" "[I" ∈ gw := gw_i 1225 (by decide +kernel) (by decide +kernel)
theorem wf_Mo_33 : Cond.fieldLink "OriginDeskModel" 33 "OriginDeskModel" "length" "[I" ∈ gw := gw_i 1226 (by decide +kernel) (by decide +kernel)
theorem wf_Mo_105 : Cond.fieldLink "OriginDeskModel" 105 "OriginDeskModel" "f" "I" ∈ gw := gw_i 1227 (by decide +kernel) (by decide +kernel)
theorem wf_Mo_108 : Cond.fieldLink "OriginDeskModel" 108 "OriginDeskModel" "at" "I" ∈ gw := gw_i 1228 (by decide +kernel) (by decide +kernel)
theorem wf_Mo_126 : Cond.fieldLink "OriginDeskModel" 126 "OriginDeskModel" "from" "I" ∈ gw := gw_i 1229 (by decide +kernel) (by decide +kernel)
theorem wf_Mo_132 : Cond.fieldLink "OriginDeskModel" 132 "OriginDeskModel" "to" "I" ∈ gw := gw_i 1230 (by decide +kernel) (by decide +kernel)
theorem wf_Mo_232 : Cond.fieldLink "OriginDeskModel" 232 "OriginDeskModel" "tagWeak" "Z" ∈ gw := gw_i 1231 (by decide +kernel) (by decide +kernel)
theorem wf_Mo_150 : Cond.fieldLink "OriginDeskModel" 150 "OriginDeskModel" "value" "I" ∈ gw := gw_i 1232 (by decide +kernel) (by decide +kernel)
theorem wf_Mo_190 : Cond.fieldLink "OriginDeskModel" 190 "OriginDeskModel" "nameFrom" "I" ∈ gw := gw_i 1233 (by decide +kernel) (by decide +kernel)
theorem wf_Mo_193 : Cond.fieldLink "OriginDeskModel" 193 "OriginDeskModel" "nameTo" "I" ∈ gw := gw_i 1234 (by decide +kernel) (by decide +kernel)
theorem wf_Mo_169 : Cond.fieldLink "OriginDeskModel" 169 "OriginDeskModel" "isOne" "Z" ∈ gw := gw_i 1235 (by decide +kernel) (by decide +kernel)
theorem wf_Mo_305 : Cond.fieldLink "OriginDeskModel" 305 "OriginDeskModel" "specs" "I" ∈ gw := gw_i 1236 (by decide +kernel) (by decide +kernel)
theorem wf_Mo_36 : Cond.fieldLink "OriginDeskModel" 36 "OriginDeskModel" "specFirst" "[I" ∈ gw := gw_i 1237 (by decide +kernel) (by decide +kernel)
theorem wf_Mo_39 : Cond.fieldLink "OriginDeskModel" 39 "OriginDeskModel" "specLast" "[I" ∈ gw := gw_i 1238 (by decide +kernel) (by decide +kernel)
theorem wf_Mo_42 : Cond.fieldLink "OriginDeskModel" 42 "OriginDeskModel" "status" "I" ∈ gw := gw_i 1239 (by decide +kernel) (by decide +kernel)
theorem wf_Mo_46 : Cond.fieldLink "OriginDeskModel" 46 "OriginDeskModel" "answered" "I" ∈ gw := gw_i 1240 (by decide +kernel) (by decide +kernel)
theorem wf_Mo_342 : Cond.fieldLink "OriginDeskModel" 342 "OriginDeskModel" "bytes" "I" ∈ gw := gw_i 1241 (by decide +kernel) (by decide +kernel)
theorem wf_Mo_351 : Cond.fieldLink "OriginDeskModel" 351 "OriginDeskModel" "headOnly" "Z" ∈ gw := gw_i 1242 (by decide +kernel) (by decide +kernel)
theorem wf_Mo_313 : Cond.fieldLink "OriginDeskModel" 313 "OriginDeskModel" "partCount" "I" ∈ gw := gw_i 1243 (by decide +kernel) (by decide +kernel)
theorem wf_Mo_49 : Cond.fieldLink "OriginDeskModel" 49 "OriginDeskModel" "partFirst" "[I" ∈ gw := gw_i 1244 (by decide +kernel) (by decide +kernel)
theorem wf_Mo_52 : Cond.fieldLink "OriginDeskModel" 52 "OriginDeskModel" "partLast" "[I" ∈ gw := gw_i 1245 (by decide +kernel) (by decide +kernel)
theorem wf_Mo_55 : Cond.fieldLink "OriginDeskModel" 55 "OriginDeskModel" "word" "[J" ∈ gw := gw_i 1246 (by decide +kernel) (by decide +kernel)
theorem wf_Ac_48 : Cond.fieldLink "OriginDesk$Accept" 48 "OriginDesk$MediaType" "main" "Ljava/lang/String;" ∈ gw := gw_i 1669 (by decide +kernel) (by decide +kernel)
theorem wf_Ac_64 : Cond.fieldLink "OriginDesk$Accept" 64 "OriginDesk$MediaType" "sub" "Ljava/lang/String;" ∈ gw := gw_i 1670 (by decide +kernel) (by decide +kernel)
theorem wf_Ac_86 : Cond.fieldLink "OriginDesk$Accept" 86 "OriginDesk$MediaType" "parameter" "Ljava/lang/String;" ∈ gw := gw_i 1671 (by decide +kernel) (by decide +kernel)
theorem wf_Ac_95 : Cond.fieldLink "OriginDesk$Accept" 95 "OriginDesk$MediaType" "value" "Ljava/lang/String;" ∈ gw := gw_i 1672 (by decide +kernel) (by decide +kernel)
theorem wf_La_57 : Cond.fieldLink "OriginDesk$Languages" 57 "OriginDesk$Language" "code" "Ljava/lang/String;" ∈ gw := gw_i 1673 (by decide +kernel) (by decide +kernel)
theorem wf_La_66 : Cond.fieldLink "OriginDesk$Languages" 66 "OriginDesk$Language" "beginning" "Ljava/lang/String;" ∈ gw := gw_i 1674 (by decide +kernel) (by decide +kernel)
section
variable {p : Program} {l : Launch} {e : Env} {R : Room} {s : State} {m : MethodId} {args : Array Value} {below : List Frame} {meth : Method} {c : Code} {cc : ByteArray} {nL : Nat} {D : va_G} {tys : List (ClassId × FieldType)} {A : Nat → Prop} {tc : Nat → ClassId} {Q : State → Prop} {st rest : List Value} {k n : Nat} {post : Option Value → va_W → Prop} {F : (Nat → Prop) → State → Heap → Prop} {ret : Option FieldType} {K : List Value → va_W → Nat → Nat → Prop} {x y y0 : MethodName} {bytes b0 : ByteArray} {maxL n0 index nA fr lo : Nat} {r0 : Option FieldType} {b : Nat} {As : List Value} {own C owner : String}
/-- an inherited method of Reader, called on the reader itself -/
theorem ux_call {ci h : Nat} {fs : List Value} {q1 : Nat × va_E} {rc : vw_C} (hC : Cx p s m args c cc nL own (yw y0 b0 n0 r0) D cls tys A tc) (hk : Kt l y (yw y bytes maxL ret) fr lo 0 0 D cls tys F (.ref h :: As) [(h, .inr (ci, fs)), q1] post) (hF : F A s s.heap) (cw : va_CU R s args own C owner index x y bytes maxL ret (yw y bytes maxL ret) { frames := fr, cells := 0, slots := 0, locals := lo } 0 0 nA) (h1 : cls[ci]? = some rc) (h2 : rc.1 = C) (hlen : As.length = nA) (hst : st = As.reverse ++ .ref h :: rest) (hW : (rest.map fun v => v.category).sum ≤ 8) (hkn : k ≤ R.cells ∧ n ≤ R.slots)
    (kk : ∀ (r : Option Value) (w1 : va_W), post r w1 → K (r.toList ++ rest) w1 k n) : vx_SX cc (Vx p l e R s m args below meth c nL D cls A Q) (.invokevirtual index) 3 st [(h, .inr (ci, fs)), q1] k n K :=
  sx_callU (wr := []) hC hk cw [0, 1] [] rfl rfl rfl rfl (by simp) (q0 := 0) rfl h1 h2 (vx_ro hk.1 hC.2.2.2.2.2.2.1 hF [0, 1] rfl) hlen hst hW hkn kk
/-- a method of its own class, called on the reader itself -/
theorem ox_call {ci h : Nat} {fs : List Value} {q1 : Nat × va_E} {rc : vw_C} (hC : Cx p s m args c cc nL own (yw y0 b0 n0 r0) D cls tys A tc) (hk : Kt l y (yw y bytes maxL ret) fr lo 0 0 D cls tys F (.ref h :: As) [(h, .inr (ci, fs)), q1] post) (hF : F A s s.heap) (cw : CallW R s args own C index y bytes maxL ret (yw y bytes maxL ret) { frames := fr, cells := 0, slots := 0, locals := lo } 0 0 nA) (h1 : cls[ci]? = some rc) (h2 : rc.1 = C) (hlen : As.length = nA) (hst : st = As.reverse ++ .ref h :: rest) (hW : (rest.map fun v => v.category).sum ≤ 8) (hkn : k ≤ R.cells ∧ n ≤ R.slots)
    (kk : ∀ (r : Option Value) (w1 : va_W), post r w1 → K (r.toList ++ rest) w1 k n) : vx_SX cc (Vx p l e R s m args below meth c nL D cls A Q) (.invokevirtual index) 3 st [(h, .inr (ci, fs)), q1] k n K :=
  sx_callV (wr := []) hC hk cw [0, 1] [] rfl rfl rfl rfl (by simp) (q0 := 0) rfl h1 h2 (vx_ro hk.1 hC.2.2.2.2.2.2.1 hF [0, 1] rfl) hlen hst hW hkn kk
/-- aaload of an array that is only read -/
theorem sx_aaT {t N : Nat} {f : Nat → Value} {ty : FieldType} {Ts : List Cond} {ws : va_W} (hC : Cx p s m args c cc nL own Ts D cls tys A tc) (hT : va_T ty t N f A s s.heap) (hr : ty.isReference = true) {i : Int32} (hin : vp_in i N) {v : Value} (hv : f i.toNatClampNeg = v) (kk : K (v :: rest) ws k n) : vx_SX cc (Vx p l e R s m args below meth c nL D cls A Q) .aaload 1 (.int i :: .ref t :: rest) ws k n K := by
  intro pc lv hdg hK H locs ls hP hD hS hl
  obtain ⟨cell, h1, h2, h3, h4, h5, h6, h7⟩ := hT
  have hlt : i.toNatClampNeg < N := Nat.not_le.mp fun q => hin (Or.inr q)
  have hin' : ¬ (i < 0 ∨ cell.slots.size ≤ i.toNatClampNeg) := by
    intro q
    rcases q with q | q
    · exact hin (Or.inl q)
    · omega
  exact W.aald (v := v) (ty := ty) hC.1 hC.2.1 (by rw [hS.2.1 t (Array.getElem?_eq_some_iff.mp h1).1 h7]; exact h1) h2 hr h3 hin' (by rw [h6 _ hlt, hv]) rfl rfl hdg (hK _ _ _ _ kk H locs ls hP hD hS hl)
end
def nwF (U : State) : Prop := va_Nw (.fieldLinkNest "OriginDesk$Reader" 31 "OriginDesk$Request" "texts" "[[I" "OriginDesk") U ∧ va_Nw (.fieldLinkNest "OriginDesk$Reader" 35 "OriginDesk$Request" "sizes" "[I" "OriginDesk") U
/-- the request, only read: tx G is the text of field G -/
def rqF (q : Nat) (ro : Nat → Nat) (tx : Nat → List Nat) : (Nat → Prop) → State → Heap → Prop := fun A U H => (va_O "OriginDesk$Request" q A U H ∧ nwF U) ∧ ∃ ta za : Nat, va_OF "OriginDesk$Request" "texts" "[[I" (.ref ta) q A U H ∧ va_OF "OriginDesk$Request" "sizes" "[I" (.ref za) q A U H ∧ va_T (.array .int) ta 8 (fun G => .ref (ro G)) A U H ∧ (∃ fz, va_T .int za 8 fz A U H ∧ ∀ G, G < 8 → fz G = .int (nI (tx G).length)) ∧ ∀ G, G < 8 → rdF (ro G) (tx G) A U H
theorem rqF_ro (q : Nat) (ro : Nat → Nat) (tx : Nat → List Nat) : RO (rqF q ro tx) := by
  refine ⟨fun A u U H ha h => ?_, fun A U H H1 hq h => ?_, fun A B U H hAB h => ?_⟩
  · obtain ⟨h1, ta, za, h2, h3, h4, ⟨fz, h5, h6⟩, h7⟩ := h
    exact ⟨⟨h1.1.moved ha.alike, h1.2.1.warmF ha, h1.2.2.warmF ha⟩, ta, za, h2.moved ha.alike, h3.moved ha.alike, h4.moved ha.alike, ⟨fz, h5.moved ha.alike, h6⟩, fun G hG => (rdF_ro _ _).1 A u U H ha (h7 G hG)⟩
  · obtain ⟨h1, ta, za, h2, h3, h4, ⟨fz, h5, h6⟩, h7⟩ := h
    exact ⟨⟨h1.1.kept hq, h1.2⟩, ta, za, h2.kept hq, h3.kept hq, h4.kept hq, ⟨fz, h5.kept hq, h6⟩, fun G hG => (rdF_ro _ _).2.1 A U H H1 hq (h7 G hG)⟩
  · obtain ⟨h1, ta, za, h2, h3, h4, ⟨fz, h5, h6⟩, h7⟩ := h
    exact ⟨⟨h1.1.narrow hAB, h1.2⟩, ta, za, h2.narrow hAB, h3.narrow hAB, h4.narrow hAB, ⟨fz, h5.narrow hAB, h6⟩, fun G hG => (rdF_ro _ _).2.2 A B U H hAB (h7 G hG)⟩
def j_Rq_hasR : wq_J := [(.iload_n 1, (0, 0, 0, 0, 0)), (.ifCond .lt 22, (0, 23, 0, 0, 0)), (.iload_n 1, (0, 0, 0, 0, 0)), (.bipush 8, (0, 0, 0, 8, 0)), (.if_icmp .ge 16, (0, 23, 0, 0, 0)), (.aload_n 0, (0, 0, 0, 0, 0)), (.getfield 20, (2, 0, 0, 0, 0)), (.iload_n 1, (0, 0, 0, 0, 0)), (.iaload, (2, 0, 0, 0, 0)), (.ifCond .le 7, (0, 23, 0, 0, 0)), (.iconst 1, (0, 0, 0, 1, 0)), (.goto 4, (0, 24, 0, 0, 0)), (.iconst 0, (0, 0, 0, 0, 0)), (.ireturn, (0, 0, 0, 0, 0))]
theorem jc_Rq_hasR : wq_c b_Rq_has 2 j_Rq_hasR 0 = true := by decide +kernel
set_option maxRecDepth 100000 in
set_option maxHeartbeats 4000000 in
theorem c_Rq_has (l : Launch) (D : va_G) (tys : List (ClassId × FieldType)) (tc : Nat → ClassId) (hty : ∀ i : Nat, i < 4 → tys[i]? = some (tc i, vx_ty i)) (q : Nat) (ro : Nat → Nat) (tx : Nat → List Nat) (G : Nat) (hG : G < 8) (hl96 : (tx G).length ≤ 96) : Kt l y_Rq_has (yw y_Rq_has b_Rq_has 2 (some .boolean)) 0 0 0 0 D cls tys (rqF q ro tx) [.ref q, .int (nI G)] [] (fun r w => r = some (.int (bI (decide (0 < (tx G).length)))) ∧ w = []) := by
  refine Kt.of (rqF_ro q ro tx) (by decide) rfl hty (Nat.le_of_ble_eq_true rfl) ?_
  intro p e s m args below meth c0 A hC hr hlk hnm hF
  have hFt : vx_Ft y_Rq_has.cls (yw y_Rq_has b_Rq_has 2 (some .boolean)) cls cty [] := (fun q h => by cases h)
  have hini : false = true → meth.name = "<init>" := fun h => by cases h
  obtain ⟨h1, ta, za, h2, h3, h4, ⟨fz, h5, h6⟩, h7⟩ := hF
  refine vx_go hC hFt hini (vx_ends hC hr hlk) jc_Rq_hasR 0 (by decide) rfl ?_
  refine And.intro (fun c1 => ?_) (fun c1 => ?_)
  · skip
    exact absurd c1 (nI_pos (by omega))
  · skip
    refine And.intro (fun c4 => ?_) (fun c4 => ?_)
    · skip
      exact absurd ((nI_leI (a := 8) (b := G) (by omega) (by omega)).mp c4) (by omega)
    · skip
      refine ⟨_, ⟨"OriginDesk$Request", "sizes", "[I", "OriginDesk$Request", h3, Or.inl (hC.2.2.2.2.1 _ (List.mem_cons_of_mem _ wf_Rq_20)), fun _ z => z⟩, ?_⟩
      refine ⟨_, _, h5, vp_in_nI hG (by decide), ?_⟩
      rw [nI_clamp (by omega), h6 G hG]
      refine And.intro (fun c9 => ?_) (fun c9 => ?_)
      · skip
        have c9 : ¬ 0 < (tx G).length := fun z => absurd c9 (nI_nle z (by omega))
        refine vx_go hC hFt hini (vx_ends hC hr hlk) jc_Rq_hasR 12 (by decide) rfl ?_
        refine And.intro (rfl) (And.intro ?_ (And.intro (Nat.le_refl _) (Nat.le_refl _)))
        rw [decide_eq_false (by omega)]
        exact And.intro rfl rfl
      · skip
        have c9 : 0 < (tx G).length := Nat.pos_of_ne_zero (fun z => c9 (by rw [z]; exact nI_le (Nat.le_refl 0) (by decide)))
        refine vx_go hC hFt hini (vx_ends hC hr hlk) jc_Rq_hasR 13 (by decide) rfl ?_
        refine And.intro (rfl) (And.intro ?_ (And.intro (Nat.le_refl _) (Nat.le_refl _)))
        rw [decide_eq_true (by omega)]
        exact And.intro rfl rfl
set_option maxRecDepth 100000 in
set_option maxHeartbeats 4000000 in
theorem c_Rd_open (l : Launch) (D : va_G) (tys : List (ClassId × FieldType)) (tc : Nat → ClassId) (hty : ∀ i : Nat, i < 4 → tys[i]? = some (tc i, vx_ty i)) (ci : Nat) (hci : ci < 5) (h ra sa : Nat) (ex : List Value) (z1 z2 : Int32) (sd : Nat → Int32) (ss : Nat) (q : Nat) (ro : Nat → Nat) (tx : Nat → List Nat) (G : Nat) (hG : G < 8) (hl96 : (tx G).length ≤ 96) : Kt l y_Rd_open (yw y_Rd_open b_Rd_open 3 none) 1 21 0 0 D cls tys (rqF q ro tx) [.ref h, .ref q, .int (nI G)] [(h, .inr (ci, .ref ra :: .int z1 :: .int z2 :: .ref sa :: .int (nI ss) :: ex)), (sa, .inl (tc 0, 96, .inl sd))] (fun r w => r = none ∧ w = rdW tc ci h (if 0 < (tx G).length then ro G else ra) sa ex (tx G) (tx G) sd ss) := by
  refine Kt.of (rqF_ro q ro tx) (by decide) rfl hty (Nat.le_of_ble_eq_true rfl) ?_
  intro p e s m args below meth c0 A hC hr hlk hnm hF
  have hFt : vx_Ft y_Rd_open.cls (yw y_Rd_open b_Rd_open 3 none) cls cty ft_Rd := ft_of (fun w h => List.mem_cons_of_mem _ h) fl_Rd_in ft_Rd_b
  have hini : false = true → meth.name = "<init>" := fun h => by cases h
  obtain ⟨h1, ta, za, h2, h3, h4, ⟨fz, h5, h6⟩, h7⟩ := id hF
  rcases (show ci = 0 ∨ ci = 1 ∨ ci = 2 ∨ ci = 3 ∨ ci = 4 by omega) with rfl | rfl | rfl | rfl | rfl
  all_goals
    refine vx_go hC hFt hini (vx_ends hC hr hlk) jc_Rd_open 0 (by decide) rfl ?_
    refine And.intro rfl (And.intro (And.intro rfl rfl) ?_)
    refine And.intro rfl (And.intro (And.intro rfl rfl) ?_)
    refine callv0 hC (c_Rq_has l D tys tc hty q ro tx G hG hl96) hF h1.1 wm_Rq_has wl_Rd_25 wi_Rq_has ws_Rq_Rq_has ⟨by decide, by decide⟩ rfl rfl (Nat.le_of_ble_eq_true rfl) ⟨Nat.zero_le _, Nat.zero_le _⟩ (fun r' hp => ?_)
    subst hp
    refine And.intro (fun c9 => ?_) (fun c9 => ?_)
    · skip
      have c9 : ¬ 0 < (tx G).length := of_decide_eq_false (bI_eq c9)
      refine vx_go hC hFt hini (vx_ends hC hr hlk) jc_Rd_open 22 (by decide) rfl ?_
      refine And.intro (trivial) (And.intro ?_ (And.intro (Nat.le_refl _) (Nat.le_refl _)))
      refine And.intro rfl ?_
      rw [if_neg c9, show tx G = [] from List.eq_nil_of_length_eq_zero (by omega)]
      rfl
    · skip
      have c9 : 0 < (tx G).length := of_decide_eq_true (bI_ne c9)
      refine ⟨_, ⟨"OriginDesk$Request", "texts", "[[I", "OriginDesk$Request", h2, Or.inr ⟨_, va_Nw.use rfl h1.2.1⟩, fun _ z => z⟩, ?_⟩
      refine sx_aaT hC h4 rfl (vp_in_nI hG (by decide)) rfl ?_
      rw [nI_clamp (by omega)]
      refine And.intro rfl (And.intro (And.intro rfl rfl) ?_)
      refine ⟨_, ⟨"OriginDesk$Request", "sizes", "[I", "OriginDesk$Request", h3, Or.inr ⟨_, va_Nw.use rfl h1.2.2⟩, fun _ z => z⟩, ?_⟩
      refine ⟨_, _, h5, vp_in_nI hG (by decide), ?_⟩
      rw [nI_clamp (by omega), h6 G hG]
      refine And.intro rfl (And.intro (And.intro rfl rfl) ?_)
      refine And.intro (trivial) (And.intro ?_ (And.intro (Nat.le_refl _) (Nat.le_refl _)))
      refine And.intro rfl ?_
      rw [if_pos c9]
      unfold rdW
      rw [Nat.sub_self]
      rfl

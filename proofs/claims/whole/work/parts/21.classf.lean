theorem q1 : Cond.initialized yX9_isRoom.cls ∈ TB := TB_t 1 (by decide +kernel) (by decide +kernel)
theorem q2 : Cond.initialized yX1_letsOf.cls ∈ TB := TB_t 2 (by decide +kernel) (by decide +kernel)
theorem q3 : Cond.initialized yX0_add.cls ∈ TB := TB_t 3 (by decide +kernel) (by decide +kernel)
theorem q4 : Cond.initialized yX5_valueOf.cls ∈ TB := TB_t 4 (by decide +kernel) (by decide +kernel)
theorem q5 : Cond.initialized yX3_joined.cls ∈ TB := TB_t 5 (by decide +kernel) (by decide +kernel)
theorem q6 : Cond.initialized "java/lang/Math" ∈ TB := TB_t 6 (by decide +kernel) (by decide +kernel)
theorem q7 : Cond.initialized yX2_isKind.cls ∈ TB := TB_t 7 (by decide +kernel) (by decide +kernel)
theorem q8 : Cond.initialized yJ7_fill_53178.cls ∈ TB := TB_t 8 (by decide +kernel) (by decide +kernel)
theorem q9 : Cond.initialized yX8_behindMinutes.cls ∈ TB := TB_t 9 (by decide +kernel) (by decide +kernel)
theorem q10 : Cond.initialized yX4_step.cls ∈ TB := TB_t 10 (by decide +kernel) (by decide +kernel)
theorem q11 : Cond.initialized yX6_isMissing.cls ∈ TB := TB_t 11 (by decide +kernel) (by decide +kernel)
theorem q14 : Cond.initialized yJ6_bitCount_0f7a4.cls ∈ TB := TB_t 14 (by decide +kernel) (by decide +kernel)
theorem q15 : Cond.initialized "java/lang/System" ∈ TB := TB_t 15 (by decide +kernel) (by decide +kernel)
theorem q16 : Cond.initialized yJ0_length_8abf5.cls ∈ TB := TB_t 16 (by decide +kernel) (by decide +kernel)
theorem q17 : Cond.initialized yJ1_charAt_3b067.cls ∈ TB := TB_t 17 (by decide +kernel) (by decide +kernel)
theorem q18 : Cond.initialized yJ3_checkIndex_8e157.cls ∈ TB := TB_t 18 (by decide +kernel) (by decide +kernel)
theorem q41 : Cond.fieldLink RX0 22 (TX0 0).1 (TX0 0).2.1 (TX0 0).2.2.1 ∈ TB := TB_t 41 (by decide +kernel) (by decide +kernel)
theorem q42 : Cond.fieldLink RX9 77 (TX0 0).1 (TX0 0).2.1 (TX0 0).2.2.1 ∈ TB := TB_t 42 (by decide +kernel) (by decide +kernel)
theorem q43 : Cond.fieldLink RX8 89 (TX0 0).1 (TX0 0).2.1 (TX0 0).2.2.1 ∈ TB := TB_t 43 (by decide +kernel) (by decide +kernel)
theorem q44 : Cond.fieldLink RX1 116 (TX0 0).1 (TX0 0).2.1 (TX0 0).2.2.1 ∈ TB := TB_t 44 (by decide +kernel) (by decide +kernel)
theorem q45 : Cond.fieldLink RX0 26 (TX0 1).1 (TX0 1).2.1 (TX0 1).2.2.1 ∈ TB := TB_t 45 (by decide +kernel) (by decide +kernel)
theorem q46 : Cond.fieldLink RX8 40 (TX0 1).1 (TX0 1).2.1 (TX0 1).2.2.1 ∈ TB := TB_t 46 (by decide +kernel) (by decide +kernel)
theorem q47 : Cond.fieldLink RX1 98 (TX0 1).1 (TX0 1).2.1 (TX0 1).2.2.1 ∈ TB := TB_t 47 (by decide +kernel) (by decide +kernel)
theorem q48 : Cond.fieldLink RX9 185 (TX0 1).1 (TX0 1).2.1 (TX0 1).2.2.1 ∈ TB := TB_t 48 (by decide +kernel) (by decide +kernel)
theorem q49 : Cond.fieldLink RX0 9 (TX0 2).1 (TX0 2).2.1 (TX0 2).2.2.1 ∈ TB := TB_t 49 (by decide +kernel) (by decide +kernel)
theorem q50 : Cond.fieldLink RX9 89 (TX0 2).1 (TX0 2).2.1 (TX0 2).2.2.1 ∈ TB := TB_t 50 (by decide +kernel) (by decide +kernel)
theorem q51 : Cond.fieldLink RX1 92 (TX0 2).1 (TX0 2).2.1 (TX0 2).2.2.1 ∈ TB := TB_t 51 (by decide +kernel) (by decide +kernel)
theorem q52 : Cond.fieldLink RX0 13 (TX0 3).1 (TX0 3).2.1 (TX0 3).2.2.1 ∈ TB := TB_t 52 (by decide +kernel) (by decide +kernel)
theorem q53 : Cond.fieldLink RX9 92 (TX0 3).1 (TX0 3).2.1 (TX0 3).2.2.1 ∈ TB := TB_t 53 (by decide +kernel) (by decide +kernel)
theorem q54 : Cond.fieldLink RX1 105 (TX0 3).1 (TX0 3).2.1 (TX0 3).2.2.1 ∈ TB := TB_t 54 (by decide +kernel) (by decide +kernel)
theorem q55 : Cond.fieldLink RX0 16 (TX0 4).1 (TX0 4).2.1 (TX0 4).2.2.1 ∈ TB := TB_t 55 (by decide +kernel) (by decide +kernel)
theorem q56 : Cond.fieldLink RX9 95 (TX0 4).1 (TX0 4).2.1 (TX0 4).2.2.1 ∈ TB := TB_t 56 (by decide +kernel) (by decide +kernel)
theorem q57 : Cond.fieldLink RX1 108 (TX0 4).1 (TX0 4).2.1 (TX0 4).2.2.1 ∈ TB := TB_t 57 (by decide +kernel) (by decide +kernel)
theorem q58 : Cond.fieldLink RX0 19 (TX0 5).1 (TX0 5).2.1 (TX0 5).2.2.1 ∈ TB := TB_t 58 (by decide +kernel) (by decide +kernel)
theorem q59 : Cond.fieldLink RX9 98 (TX0 5).1 (TX0 5).2.1 (TX0 5).2.2.1 ∈ TB := TB_t 59 (by decide +kernel) (by decide +kernel)
theorem q60 : Cond.fieldLink RX1 95 (TX0 5).1 (TX0 5).2.1 (TX0 5).2.2.1 ∈ TB := TB_t 60 (by decide +kernel) (by decide +kernel)
theorem q84 : Cond.methodLink RX5 32 yX5_workOutLets ∈ TB := TB_t 84 (by decide +kernel) (by decide +kernel)
theorem q86 : Cond.instanceMethod yX5_workOutLets ∈ TB := TB_t 86 (by decide +kernel) (by decide +kernel)
theorem q87 : Cond.code yX5_workOutLets cX5_workOutLets 5 none ∈ TB := TB_t 87 (by decide +kernel) (by decide +kernel)
theorem q88 : Cond.methodLink RX5 60 yX5_valueOf ∈ TB := TB_t 88 (by decide +kernel) (by decide +kernel)
theorem q89 : Cond.instanceMethod yX5_valueOf ∈ TB := TB_t 89 (by decide +kernel) (by decide +kernel)
theorem q90 : Cond.selects yX5_valueOf.cls yX5_valueOf yX5_valueOf ∈ TB := TB_t 90 (by decide +kernel) (by decide +kernel)
theorem q91 : Cond.code yX5_valueOf cX5_valueOf 6 (some .int) ∈ TB := TB_t 91 (by decide +kernel) (by decide +kernel)
theorem q92 : Cond.methodLink RX5 52 yX5_lawAt ∈ TB := TB_t 92 (by decide +kernel) (by decide +kernel)
theorem q93 : Cond.instanceMethod yX5_lawAt ∈ TB := TB_t 93 (by decide +kernel) (by decide +kernel)
theorem q94 : Cond.selects yX5_lawAt.cls yX5_lawAt yX5_lawAt ∈ TB := TB_t 94 (by decide +kernel) (by decide +kernel)
theorem q95 : Cond.code yX5_lawAt cX5_lawAt 2 (some (.object "OneDraught$Law")) ∈ TB := TB_t 95 (by decide +kernel) (by decide +kernel)
theorem q97 : Cond.static yX9_isWithin ∈ TB := TB_t 97 (by decide +kernel) (by decide +kernel)
theorem q98 : Cond.code yX9_isWithin cX9_isWithin 3 (some .boolean) ∈ TB := TB_t 98 (by decide +kernel) (by decide +kernel)
theorem q99 : Cond.methodLink RX5 56 yX3_valueWith ∈ TB := TB_t 99 (by decide +kernel) (by decide +kernel)
theorem q100 : Cond.instanceMethod yX3_valueWith ∈ TB := TB_t 100 (by decide +kernel) (by decide +kernel)
theorem q101 : Cond.selects yX3_valueWith.cls yX3_valueWith yX3_valueWith ∈ TB := TB_t 101 (by decide +kernel) (by decide +kernel)
theorem q102 : Cond.code yX3_valueWith cX3_valueWith 7 (some .int) ∈ TB := TB_t 102 (by decide +kernel) (by decide +kernel)
theorem q103 : Cond.methodLink RX3 20 yX3_joined ∈ TB := TB_t 103 (by decide +kernel) (by decide +kernel)
theorem q104 : Cond.static yX3_joined ∈ TB := TB_t 104 (by decide +kernel) (by decide +kernel)
theorem q105 : Cond.code yX3_joined cX3_joined 3 (some .int) ∈ TB := TB_t 105 (by decide +kernel) (by decide +kernel)
theorem q107 : Cond.static yX9_heldWithin ∈ TB := TB_t 107 (by decide +kernel) (by decide +kernel)
theorem q108 : Cond.code yX9_heldWithin cX9_heldWithin 3 (some .int) ∈ TB := TB_t 108 (by decide +kernel) (by decide +kernel)
theorem q109 : Cond.methodLink RX9 145 Lib.Math.min.name ∈ TB := TB_t 109 (by decide +kernel) (by decide +kernel)
theorem q110 : Cond.static Lib.Math.min.name ∈ TB := TB_t 110 (by decide +kernel) (by decide +kernel)
theorem q111 : Cond.code Lib.Math.min.name Lib.Math.min.code 2 (some .int) ∈ TB := TB_t 111 (by decide +kernel) (by decide +kernel)
theorem q112 : Cond.methodLink RX9 344 Lib.Math.max.name ∈ TB := TB_t 112 (by decide +kernel) (by decide +kernel)
theorem q113 : Cond.static Lib.Math.max.name ∈ TB := TB_t 113 (by decide +kernel) (by decide +kernel)
theorem q114 : Cond.code Lib.Math.max.name Lib.Math.max.code 2 (some .int) ∈ TB := TB_t 114 (by decide +kernel) (by decide +kernel)
theorem q115 : Cond.methodLink RX5 68 yX2_letsOf ∈ TB := TB_t 115 (by decide +kernel) (by decide +kernel)
theorem q116 : Cond.static yX2_letsOf ∈ TB := TB_t 116 (by decide +kernel) (by decide +kernel)
theorem q117 : Cond.code yX2_letsOf cX2_letsOf 6 (some .int) ∈ TB := TB_t 117 (by decide +kernel) (by decide +kernel)
theorem q118 : Cond.methodLink RX2 19 Lib.Math.min.name ∈ TB := TB_t 118 (by decide +kernel) (by decide +kernel)
theorem q119 : Cond.fieldLink RX5 35 (TX5 0).1 (TX5 0).2.1 (TX5 0).2.2.1 ∈ TB := TB_t 119 (by decide +kernel) (by decide +kernel)
theorem q120 : Cond.fieldLink RX9 250 (TX5 0).1 (TX5 0).2.1 (TX5 0).2.2.1 ∈ TB := TB_t 120 (by decide +kernel) (by decide +kernel)
theorem q121 : Cond.fieldLink RX5 16 (TX5 1).1 (TX5 1).2.1 (TX5 1).2.2.1 ∈ TB := TB_t 121 (by decide +kernel) (by decide +kernel)
theorem q122 : Cond.fieldLink RX9 270 (TX5 1).1 (TX5 1).2.1 (TX5 1).2.2.1 ∈ TB := TB_t 122 (by decide +kernel) (by decide +kernel)
theorem q123 : Cond.fieldLink RX5 22 (TX5 2).1 (TX5 2).2.1 (TX5 2).2.2.1 ∈ TB := TB_t 123 (by decide +kernel) (by decide +kernel)
theorem q124 : Cond.fieldLink RX5 26 (TX5 3).1 (TX5 3).2.1 (TX5 3).2.2.1 ∈ TB := TB_t 124 (by decide +kernel) (by decide +kernel)
theorem q125 : Cond.fieldLink RX5 29 (TX5 4).1 (TX5 4).2.1 (TX5 4).2.2.1 ∈ TB := TB_t 125 (by decide +kernel) (by decide +kernel)
theorem q137 : Cond.methodLink RX1 48 yJ7_fill_53178 ∈ TB := TB_t 137 (by decide +kernel) (by decide +kernel)
theorem q138 : Cond.static yJ7_fill_53178 ∈ TB := TB_t 138 (by decide +kernel) (by decide +kernel)
theorem q139 : Cond.code yJ7_fill_53178 cJ7_fill_53178 4 none ∈ TB := TB_t 139 (by decide +kernel) (by decide +kernel)
theorem q140 : Cond.fieldLink RX1 12 (TX1 0).1 (TX1 0).2.1 (TX1 0).2.2.1 ∈ TB := TB_t 140 (by decide +kernel) (by decide +kernel)
theorem q141 : Cond.fieldLink RX9 73 (TX1 0).1 (TX1 0).2.1 (TX1 0).2.2.1 ∈ TB := TB_t 141 (by decide +kernel) (by decide +kernel)
theorem q142 : Cond.fieldLink RX8 36 (TX1 0).1 (TX1 0).2.1 (TX1 0).2.2.1 ∈ TB := TB_t 142 (by decide +kernel) (by decide +kernel)
theorem q143 : Cond.fieldLink RX1 21 (TX1 1).1 (TX1 1).2.1 (TX1 1).2.2.1 ∈ TB := TB_t 143 (by decide +kernel) (by decide +kernel)
theorem q144 : Cond.fieldLink RX9 229 (TX1 1).1 (TX1 1).2.1 (TX1 1).2.2.1 ∈ TB := TB_t 144 (by decide +kernel) (by decide +kernel)
theorem q145 : Cond.fieldLink RX1 25 (TX1 2).1 (TX1 2).2.1 (TX1 2).2.2.1 ∈ TB := TB_t 145 (by decide +kernel) (by decide +kernel)
theorem q146 : Cond.fieldLink RX9 124 (TX1 2).1 (TX1 2).2.1 (TX1 2).2.2.1 ∈ TB := TB_t 146 (by decide +kernel) (by decide +kernel)
theorem q147 : Cond.fieldLink RX8 83 (TX1 2).1 (TX1 2).2.1 (TX1 2).2.2.1 ∈ TB := TB_t 147 (by decide +kernel) (by decide +kernel)
theorem q148 : Cond.fieldLink RX1 29 (TX1 3).1 (TX1 3).2.1 (TX1 3).2.2.1 ∈ TB := TB_t 148 (by decide +kernel) (by decide +kernel)
theorem q149 : Cond.fieldLink RX9 127 (TX1 3).1 (TX1 3).2.1 (TX1 3).2.2.1 ∈ TB := TB_t 149 (by decide +kernel) (by decide +kernel)
theorem q150 : Cond.fieldLink RX1 32 (TX1 4).1 (TX1 4).2.1 (TX1 4).2.2.1 ∈ TB := TB_t 150 (by decide +kernel) (by decide +kernel)
theorem q151 : Cond.fieldLink RX8 63 (TX1 4).1 (TX1 4).2.1 (TX1 4).2.2.1 ∈ TB := TB_t 151 (by decide +kernel) (by decide +kernel)
theorem q152 : Cond.fieldLink RX9 130 (TX1 4).1 (TX1 4).2.1 (TX1 4).2.2.1 ∈ TB := TB_t 152 (by decide +kernel) (by decide +kernel)
theorem q153 : Cond.fieldLink RX1 71 (TX1 5).1 (TX1 5).2.1 (TX1 5).2.2.1 ∈ TB := TB_t 153 (by decide +kernel) (by decide +kernel)
theorem q154 : Cond.fieldLink RX8 86 (TX1 5).1 (TX1 5).2.1 (TX1 5).2.2.1 ∈ TB := TB_t 154 (by decide +kernel) (by decide +kernel)
theorem q155 : Cond.fieldLink RX9 182 (TX1 5).1 (TX1 5).2.1 (TX1 5).2.2.1 ∈ TB := TB_t 155 (by decide +kernel) (by decide +kernel)
theorem q156 : Cond.fieldLink RX1 74 (TX1 6).1 (TX1 6).2.1 (TX1 6).2.2.1 ∈ TB := TB_t 156 (by decide +kernel) (by decide +kernel)
theorem q157 : Cond.fieldLink RX9 173 (TX1 6).1 (TX1 6).2.1 (TX1 6).2.2.1 ∈ TB := TB_t 157 (by decide +kernel) (by decide +kernel)
theorem q158 : Cond.fieldLink RX1 77 (TX1 7).1 (TX1 7).2.1 (TX1 7).2.2.1 ∈ TB := TB_t 158 (by decide +kernel) (by decide +kernel)
theorem q159 : Cond.fieldLink RX9 235 (TX1 7).1 (TX1 7).2.1 (TX1 7).2.2.1 ∈ TB := TB_t 159 (by decide +kernel) (by decide +kernel)
theorem q160 : Cond.fieldLink RX1 35 (TX1 8).1 (TX1 8).2.1 (TX1 8).2.2.1 ∈ TB := TB_t 160 (by decide +kernel) (by decide +kernel)
theorem q161 : Cond.fieldLink RX9 153 (TX1 8).1 (TX1 8).2.1 (TX1 8).2.2.1 ∈ TB := TB_t 161 (by decide +kernel) (by decide +kernel)
theorem q162 : Cond.fieldLink RX1 39 (TX1 9).1 (TX1 9).2.1 (TX1 9).2.2.1 ∈ TB := TB_t 162 (by decide +kernel) (by decide +kernel)
theorem q163 : Cond.fieldLink RX1 42 (TX1 10).1 (TX1 10).2.1 (TX1 10).2.2.1 ∈ TB := TB_t 163 (by decide +kernel) (by decide +kernel)
theorem q164 : Cond.fieldLink RX8 59 (TX1 10).1 (TX1 10).2.1 (TX1 10).2.2.1 ∈ TB := TB_t 164 (by decide +kernel) (by decide +kernel)
theorem q165 : Cond.fieldLink RX1 45 (TX1 11).1 (TX1 11).2.1 (TX1 11).2.2.1 ∈ TB := TB_t 165 (by decide +kernel) (by decide +kernel)
theorem q199 : Cond.fieldLink RX8 12 (TX8 0).1 (TX8 0).2.1 (TX8 0).2.2.1 ∈ TB := TB_t 199 (by decide +kernel) (by decide +kernel)
theorem q209 : Cond.fieldLink RX4 15 (TX4 0).1 (TX4 0).2.1 (TX4 0).2.2.1 ∈ TB := TB_t 209 (by decide +kernel) (by decide +kernel)
theorem q210 : Cond.fieldLink RX4 19 (TX4 1).1 (TX4 1).2.1 (TX4 1).2.2.1 ∈ TB := TB_t 210 (by decide +kernel) (by decide +kernel)
theorem q211 : Cond.fieldLink RX4 49 (TX4 2).1 (TX4 2).2.1 (TX4 2).2.2.1 ∈ TB := TB_t 211 (by decide +kernel) (by decide +kernel)
theorem q212 : Cond.fieldLink RX4 23 (TX4 3).1 (TX4 3).2.1 (TX4 3).2.2.1 ∈ TB := TB_t 212 (by decide +kernel) (by decide +kernel)
theorem q213 : Cond.fieldLink RX4 26 (TX4 4).1 (TX4 4).2.1 (TX4 4).2.2.1 ∈ TB := TB_t 213 (by decide +kernel) (by decide +kernel)
theorem q214 : Cond.fieldLink RX4 54 (TX4 5).1 (TX4 5).2.1 (TX4 5).2.2.1 ∈ TB := TB_t 214 (by decide +kernel) (by decide +kernel)
theorem q215 : Cond.fieldLink RX4 29 (TX4 6).1 (TX4 6).2.1 (TX4 6).2.2.1 ∈ TB := TB_t 215 (by decide +kernel) (by decide +kernel)
theorem q216 : Cond.fieldLink RX4 9 (TX4 7).1 (TX4 7).2.1 (TX4 7).2.2.1 ∈ TB := TB_t 216 (by decide +kernel) (by decide +kernel)
theorem q217 : Cond.fieldLink RX4 32 (TX4 8).1 (TX4 8).2.1 (TX4 8).2.2.1 ∈ TB := TB_t 217 (by decide +kernel) (by decide +kernel)
theorem q218 : Cond.fieldLink RX4 36 (TX4 9).1 (TX4 9).2.1 (TX4 9).2.2.1 ∈ TB := TB_t 218 (by decide +kernel) (by decide +kernel)
theorem q250 : Cond.fieldLink RX6 11 (TX6 0).1 (TX6 0).2.1 (TX6 0).2.2.1 ∈ TB := TB_t 250 (by decide +kernel) (by decide +kernel)
theorem q251 : Cond.fieldLink RX9 280 (TX6 0).1 (TX6 0).2.1 (TX6 0).2.2.1 ∈ TB := TB_t 251 (by decide +kernel) (by decide +kernel)
theorem q252 : Cond.fieldLink RX6 19 (TX6 1).1 (TX6 1).2.1 (TX6 1).2.2.1 ∈ TB := TB_t 252 (by decide +kernel) (by decide +kernel)
theorem q253 : Cond.fieldLink RX9 295 (TX6 1).1 (TX6 1).2.1 (TX6 1).2.2.1 ∈ TB := TB_t 253 (by decide +kernel) (by decide +kernel)
theorem q254 : Cond.fieldLink RX6 15 (TX6 2).1 (TX6 2).2.1 (TX6 2).2.2.1 ∈ TB := TB_t 254 (by decide +kernel) (by decide +kernel)
theorem q255 : Cond.fieldLink RX8 105 (TX6 2).1 (TX6 2).2.1 (TX6 2).2.2.1 ∈ TB := TB_t 255 (by decide +kernel) (by decide +kernel)
theorem q256 : Cond.fieldLink RX9 283 (TX6 2).1 (TX6 2).2.1 (TX6 2).2.2.1 ∈ TB := TB_t 256 (by decide +kernel) (by decide +kernel)
theorem q272 : Cond.fieldLink RX9 311 (TX7 0).1 (TX7 0).2.1 (TX7 0).2.2.1 ∈ TB := TB_t 272 (by decide +kernel) (by decide +kernel)
theorem q273 : Cond.fieldLink RX9 314 (TX7 1).1 (TX7 1).2.1 (TX7 1).2.2.1 ∈ TB := TB_t 273 (by decide +kernel) (by decide +kernel)
theorem q274 : Cond.fieldLink RX9 316 (TX7 2).1 (TX7 2).2.1 (TX7 2).2.2.1 ∈ TB := TB_t 274 (by decide +kernel) (by decide +kernel)
theorem q275 : Cond.fieldLink RX9 326 (TX7 3).1 (TX7 3).2.1 (TX7 3).2.2.1 ∈ TB := TB_t 275 (by decide +kernel) (by decide +kernel)
theorem q277 : Cond.fieldLink RX9 318 (TX7 4).1 (TX7 4).2.1 (TX7 4).2.2.1 ∈ TB := TB_t 277 (by decide +kernel) (by decide +kernel)
theorem q289 : Cond.fieldLink RX9 10 (TX9 0).1 (TX9 0).2.1 (TX9 0).2.2.1 ∈ TB := TB_t 289 (by decide +kernel) (by decide +kernel)
theorem q290 : Cond.fieldLink RX9 16 (TX9 1).1 (TX9 1).2.1 (TX9 1).2.2.1 ∈ TB := TB_t 290 (by decide +kernel) (by decide +kernel)
theorem q291 : Cond.fieldLink RX9 333 (TX9 2).1 (TX9 2).2.1 (TX9 2).2.2.1 ∈ TB := TB_t 291 (by decide +kernel) (by decide +kernel)
theorem q292 : Cond.fieldLink RX9 22 (TX9 3).1 (TX9 3).2.1 (TX9 3).2.2.1 ∈ TB := TB_t 292 (by decide +kernel) (by decide +kernel)
theorem q293 : Cond.fieldLink RX9 26 (TX9 4).1 (TX9 4).2.1 (TX9 4).2.2.1 ∈ TB := TB_t 293 (by decide +kernel) (by decide +kernel)
theorem q294 : Cond.fieldLink RX9 241 (TX9 5).1 (TX9 5).2.1 (TX9 5).2.2.1 ∈ TB := TB_t 294 (by decide +kernel) (by decide +kernel)
theorem q296 : Cond.fieldLink RX9 41 (TX9 7).1 (TX9 7).2.1 (TX9 7).2.2.1 ∈ TB := TB_t 296 (by decide +kernel) (by decide +kernel)
theorem q297 : Cond.fieldLink RX9 47 (TX9 8).1 (TX9 8).2.1 (TX9 8).2.2.1 ∈ TB := TB_t 297 (by decide +kernel) (by decide +kernel)
theorem q298 : Cond.fieldLink RX9 51 (TX9 9).1 (TX9 9).2.1 (TX9 9).2.2.1 ∈ TB := TB_t 298 (by decide +kernel) (by decide +kernel)
theorem q299 : Cond.fieldLink RX9 330 (TX9 10).1 (TX9 10).2.1 (TX9 10).2.2.1 ∈ TB := TB_t 299 (by decide +kernel) (by decide +kernel)
theorem q327 : Cond.methodLink RX9 57 yX2_isKind ∈ TB := TB_t 327 (by decide +kernel) (by decide +kernel)
theorem q328 : Cond.static yX2_isKind ∈ TB := TB_t 328 (by decide +kernel) (by decide +kernel)
theorem q329 : Cond.code yX2_isKind cX2_isKind 1 (some .boolean) ∈ TB := TB_t 329 (by decide +kernel) (by decide +kernel)
theorem q331 : Cond.methodLink RX9 63 yX9_isRoom ∈ TB := TB_t 331 (by decide +kernel) (by decide +kernel)
theorem q332 : Cond.static yX9_isRoom ∈ TB := TB_t 332 (by decide +kernel) (by decide +kernel)
theorem q333 : Cond.code yX9_isRoom cX9_isRoom 1 (some .boolean) ∈ TB := TB_t 333 (by decide +kernel) (by decide +kernel)
theorem q334 : Cond.methodLink RX9 66 yX9_isWithin ∈ TB := TB_t 334 (by decide +kernel) (by decide +kernel)
theorem q335 : Cond.constant RX9 72 (-1000000001) ∈ TB := TB_t 335 (by decide +kernel) (by decide +kernel)
theorem q336 : Cond.constant RX9 81 (-1000000003) ∈ TB := TB_t 336 (by decide +kernel) (by decide +kernel)
theorem q337 : Cond.methodLink RX9 82 yX0_add ∈ TB := TB_t 337 (by decide +kernel) (by decide +kernel)
theorem q338 : Cond.instanceMethod yX0_add ∈ TB := TB_t 338 (by decide +kernel) (by decide +kernel)
theorem q339 : Cond.selects yX0_add.cls yX0_add yX0_add ∈ TB := TB_t 339 (by decide +kernel) (by decide +kernel)
theorem q340 : Cond.code yX0_add cX0_add 6 (some .int) ∈ TB := TB_t 340 (by decide +kernel) (by decide +kernel)
theorem q345 : Cond.methodLink RX9 86 yX0_has ∈ TB := TB_t 345 (by decide +kernel) (by decide +kernel)
theorem q346 : Cond.instanceMethod yX0_has ∈ TB := TB_t 346 (by decide +kernel) (by decide +kernel)
theorem q347 : Cond.selects yX0_has.cls yX0_has yX0_has ∈ TB := TB_t 347 (by decide +kernel) (by decide +kernel)
theorem q348 : Cond.code yX0_has cX0_has 2 (some .boolean) ∈ TB := TB_t 348 (by decide +kernel) (by decide +kernel)
theorem q350 : Cond.methodLink RX9 101 yX0_isOpen ∈ TB := TB_t 350 (by decide +kernel) (by decide +kernel)
theorem q351 : Cond.instanceMethod yX0_isOpen ∈ TB := TB_t 351 (by decide +kernel) (by decide +kernel)
theorem q352 : Cond.selects yX0_isOpen.cls yX0_isOpen yX0_isOpen ∈ TB := TB_t 352 (by decide +kernel) (by decide +kernel)
theorem q353 : Cond.code yX0_isOpen cX0_isOpen 2 (some .boolean) ∈ TB := TB_t 353 (by decide +kernel) (by decide +kernel)
theorem q354 : Cond.methodLink RX9 104 yX1_letsOf ∈ TB := TB_t 354 (by decide +kernel) (by decide +kernel)
theorem q355 : Cond.instanceMethod yX1_letsOf ∈ TB := TB_t 355 (by decide +kernel) (by decide +kernel)
theorem q356 : Cond.selects yX1_letsOf.cls yX1_letsOf yX1_letsOf ∈ TB := TB_t 356 (by decide +kernel) (by decide +kernel)
theorem q357 : Cond.code yX1_letsOf cX1_letsOf 2 (some .int) ∈ TB := TB_t 357 (by decide +kernel) (by decide +kernel)
theorem q358 : Cond.methodLink RX1 101 yX5_letsOf ∈ TB := TB_t 358 (by decide +kernel) (by decide +kernel)
theorem q359 : Cond.instanceMethod yX5_letsOf ∈ TB := TB_t 359 (by decide +kernel) (by decide +kernel)
theorem q360 : Cond.selects yX5_letsOf.cls yX5_letsOf yX5_letsOf ∈ TB := TB_t 360 (by decide +kernel) (by decide +kernel)
theorem q361 : Cond.code yX5_letsOf cX5_letsOf 4 (some .int) ∈ TB := TB_t 361 (by decide +kernel) (by decide +kernel)
theorem q362 : Cond.methodLink RX9 108 yX1_flowOf ∈ TB := TB_t 362 (by decide +kernel) (by decide +kernel)
theorem q363 : Cond.instanceMethod yX1_flowOf ∈ TB := TB_t 363 (by decide +kernel) (by decide +kernel)
theorem q364 : Cond.selects yX1_flowOf.cls yX1_flowOf yX1_flowOf ∈ TB := TB_t 364 (by decide +kernel) (by decide +kernel)
theorem q365 : Cond.code yX1_flowOf cX1_flowOf 2 (some .int) ∈ TB := TB_t 365 (by decide +kernel) (by decide +kernel)
theorem q366 : Cond.methodLink RX1 111 yX1_letsOf ∈ TB := TB_t 366 (by decide +kernel) (by decide +kernel)
theorem q367 : Cond.methodLink RX9 111 yX2_worthOf ∈ TB := TB_t 367 (by decide +kernel) (by decide +kernel)
theorem q368 : Cond.static yX2_worthOf ∈ TB := TB_t 368 (by decide +kernel) (by decide +kernel)
theorem q369 : Cond.code yX2_worthOf cX2_worthOf 4 (some .int) ∈ TB := TB_t 369 (by decide +kernel) (by decide +kernel)
theorem q374 : Cond.methodLink RX9 115 yX2_isOf ∈ TB := TB_t 374 (by decide +kernel) (by decide +kernel)
theorem q375 : Cond.static yX2_isOf ∈ TB := TB_t 375 (by decide +kernel) (by decide +kernel)
theorem q376 : Cond.code yX2_isOf cX2_isOf 4 (some .boolean) ∈ TB := TB_t 376 (by decide +kernel) (by decide +kernel)
theorem q377 : Cond.fieldLink RX2 15 RX2 "ABOVE" "[I" ∈ TB := TB_t 377 (by decide +kernel) (by decide +kernel)
theorem q379 : Cond.constant RX9 119 (-1000000012) ∈ TB := TB_t 379 (by decide +kernel) (by decide +kernel)
theorem q388 : Cond.methodLink RX9 120 yX0_swing ∈ TB := TB_t 388 (by decide +kernel) (by decide +kernel)
theorem q389 : Cond.instanceMethod yX0_swing ∈ TB := TB_t 389 (by decide +kernel) (by decide +kernel)
theorem q390 : Cond.selects yX0_swing.cls yX0_swing yX0_swing ∈ TB := TB_t 390 (by decide +kernel) (by decide +kernel)
theorem q391 : Cond.code yX0_swing cX0_swing 3 none ∈ TB := TB_t 391 (by decide +kernel) (by decide +kernel)
theorem q396 : Cond.methodLink RX9 133 yX1_isLit ∈ TB := TB_t 396 (by decide +kernel) (by decide +kernel)
theorem q397 : Cond.instanceMethod yX1_isLit ∈ TB := TB_t 397 (by decide +kernel) (by decide +kernel)
theorem q398 : Cond.selects yX1_isLit.cls yX1_isLit yX1_isLit ∈ TB := TB_t 398 (by decide +kernel) (by decide +kernel)
theorem q399 : Cond.code yX1_isLit cX1_isLit 2 (some .boolean) ∈ TB := TB_t 399 (by decide +kernel) (by decide +kernel)
theorem q400 : Cond.methodLink RX9 136 yX1_draughtOf ∈ TB := TB_t 400 (by decide +kernel) (by decide +kernel)
theorem q401 : Cond.instanceMethod yX1_draughtOf ∈ TB := TB_t 401 (by decide +kernel) (by decide +kernel)
theorem q402 : Cond.selects yX1_draughtOf.cls yX1_draughtOf yX1_draughtOf ∈ TB := TB_t 402 (by decide +kernel) (by decide +kernel)
theorem q403 : Cond.code yX1_draughtOf cX1_draughtOf 2 (some .int) ∈ TB := TB_t 403 (by decide +kernel) (by decide +kernel)
theorem q404 : Cond.methodLink RX1 113 yX1_measureFlows ∈ TB := TB_t 404 (by decide +kernel) (by decide +kernel)
theorem q405 : Cond.instanceMethod yX1_measureFlows ∈ TB := TB_t 405 (by decide +kernel) (by decide +kernel)
theorem q406 : Cond.selects yX1_measureFlows.cls yX1_measureFlows yX1_measureFlows ∈ TB := TB_t 406 (by decide +kernel) (by decide +kernel)
theorem q407 : Cond.code yX1_measureFlows cX1_measureFlows 3 none ∈ TB := TB_t 407 (by decide +kernel) (by decide +kernel)
theorem q408 : Cond.methodLink RX1 119 yX1_flowOf ∈ TB := TB_t 408 (by decide +kernel) (by decide +kernel)
theorem q409 : Cond.methodLink RX1 122 Lib.Math.abs.name ∈ TB := TB_t 409 (by decide +kernel) (by decide +kernel)
theorem q410 : Cond.static Lib.Math.abs.name ∈ TB := TB_t 410 (by decide +kernel) (by decide +kernel)
theorem q411 : Cond.code Lib.Math.abs.name Lib.Math.abs.code 1 (some .int) ∈ TB := TB_t 411 (by decide +kernel) (by decide +kernel)
theorem q416 : Cond.methodLink RX9 139 yX9_mostOf ∈ TB := TB_t 416 (by decide +kernel) (by decide +kernel)
theorem q417 : Cond.static yX9_mostOf ∈ TB := TB_t 417 (by decide +kernel) (by decide +kernel)
theorem q418 : Cond.code yX9_mostOf cX9_mostOf 1 (some .int) ∈ TB := TB_t 418 (by decide +kernel) (by decide +kernel)
theorem q419 : Cond.methodLink RX9 142 yX1_light ∈ TB := TB_t 419 (by decide +kernel) (by decide +kernel)
theorem q420 : Cond.instanceMethod yX1_light ∈ TB := TB_t 420 (by decide +kernel) (by decide +kernel)
theorem q421 : Cond.selects yX1_light.cls yX1_light yX1_light ∈ TB := TB_t 421 (by decide +kernel) (by decide +kernel)
theorem q422 : Cond.code yX1_light cX1_light 3 none ∈ TB := TB_t 422 (by decide +kernel) (by decide +kernel)
theorem q431 : Cond.methodLink RX9 150 yX1_drawDoor ∈ TB := TB_t 431 (by decide +kernel) (by decide +kernel)
theorem q432 : Cond.instanceMethod yX1_drawDoor ∈ TB := TB_t 432 (by decide +kernel) (by decide +kernel)
theorem q433 : Cond.selects yX1_drawDoor.cls yX1_drawDoor yX1_drawDoor ∈ TB := TB_t 433 (by decide +kernel) (by decide +kernel)
theorem q434 : Cond.code yX1_drawDoor cX1_drawDoor 5 none ∈ TB := TB_t 434 (by decide +kernel) (by decide +kernel)
theorem q435 : Cond.methodLink RX1 154 yX1_draw ∈ TB := TB_t 435 (by decide +kernel) (by decide +kernel)
theorem q437 : Cond.instanceMethod yX1_draw ∈ TB := TB_t 437 (by decide +kernel) (by decide +kernel)
theorem q438 : Cond.code yX1_draw cX1_draw 1 (some .int) ∈ TB := TB_t 438 (by decide +kernel) (by decide +kernel)
theorem q439 : Cond.constant RX1 153 1103515245 ∈ TB := TB_t 439 (by decide +kernel) (by decide +kernel)
theorem q440 : Cond.methodLink RX1 160 yX0_add ∈ TB := TB_t 440 (by decide +kernel) (by decide +kernel)
theorem q441 : Cond.methodLink RX1 163 yX0_swing ∈ TB := TB_t 441 (by decide +kernel) (by decide +kernel)
theorem q450 : Cond.methodLink RX9 156 yX1_litMany ∈ TB := TB_t 450 (by decide +kernel) (by decide +kernel)
theorem q451 : Cond.instanceMethod yX1_litMany ∈ TB := TB_t 451 (by decide +kernel) (by decide +kernel)
theorem q452 : Cond.selects yX1_litMany.cls yX1_litMany yX1_litMany ∈ TB := TB_t 452 (by decide +kernel) (by decide +kernel)
theorem q453 : Cond.code yX1_litMany cX1_litMany 1 (some .int) ∈ TB := TB_t 453 (by decide +kernel) (by decide +kernel)
theorem q454 : Cond.methodLink RX1 80 yJ6_bitCount_0f7a4 ∈ TB := TB_t 454 (by decide +kernel) (by decide +kernel)
theorem q455 : Cond.static yJ6_bitCount_0f7a4 ∈ TB := TB_t 455 (by decide +kernel) (by decide +kernel)
theorem q456 : Cond.code yJ6_bitCount_0f7a4 cJ6_bitCount_0f7a4 1 (some .int) ∈ TB := TB_t 456 (by decide +kernel) (by decide +kernel)
theorem q457 : Cond.constant RJ6 265 1431655765 ∈ TB := TB_t 457 (by decide +kernel) (by decide +kernel)
theorem q458 : Cond.constant RJ6 266 858993459 ∈ TB := TB_t 458 (by decide +kernel) (by decide +kernel)
theorem q459 : Cond.constant RJ6 267 252645135 ∈ TB := TB_t 459 (by decide +kernel) (by decide +kernel)
theorem q460 : Cond.methodLink RX9 160 yX1_minutesLeft ∈ TB := TB_t 460 (by decide +kernel) (by decide +kernel)
theorem q461 : Cond.instanceMethod yX1_minutesLeft ∈ TB := TB_t 461 (by decide +kernel) (by decide +kernel)
theorem q462 : Cond.selects yX1_minutesLeft.cls yX1_minutesLeft yX1_minutesLeft ∈ TB := TB_t 462 (by decide +kernel) (by decide +kernel)
theorem q463 : Cond.code yX1_minutesLeft cX1_minutesLeft 1 (some .int) ∈ TB := TB_t 463 (by decide +kernel) (by decide +kernel)
theorem q464 : Cond.methodLink RX1 86 Lib.Math.max.name ∈ TB := TB_t 464 (by decide +kernel) (by decide +kernel)
theorem q465 : Cond.methodLink RX9 163 yX1_passMinute ∈ TB := TB_t 465 (by decide +kernel) (by decide +kernel)
theorem q466 : Cond.instanceMethod yX1_passMinute ∈ TB := TB_t 466 (by decide +kernel) (by decide +kernel)
theorem q467 : Cond.selects yX1_passMinute.cls yX1_passMinute yX1_passMinute ∈ TB := TB_t 467 (by decide +kernel) (by decide +kernel)
theorem q468 : Cond.code yX1_passMinute cX1_passMinute 1 none ∈ TB := TB_t 468 (by decide +kernel) (by decide +kernel)
theorem q469 : Cond.methodLink RX1 144 yX1_carryScent ∈ TB := TB_t 469 (by decide +kernel) (by decide +kernel)
theorem q470 : Cond.instanceMethod yX1_carryScent ∈ TB := TB_t 470 (by decide +kernel) (by decide +kernel)
theorem q471 : Cond.selects yX1_carryScent.cls yX1_carryScent yX1_carryScent ∈ TB := TB_t 471 (by decide +kernel) (by decide +kernel)
theorem q472 : Cond.code yX1_carryScent cX1_carryScent 8 none ∈ TB := TB_t 472 (by decide +kernel) (by decide +kernel)
theorem q473 : Cond.methodLink RX1 65 arraycopyName ∈ TB := TB_t 473 (by decide +kernel) (by decide +kernel)
theorem q474 : Cond.static arraycopyName ∈ TB := TB_t 474 (by decide +kernel) (by decide +kernel)
theorem q475 : Cond.native arraycopyName ∈ TB := TB_t 475 (by decide +kernel) (by decide +kernel)
theorem q476 : Cond.methodLink RX1 125 Lib.MathLoose.min_long.x ∈ TB := TB_t 476 (by decide +kernel) (by decide +kernel)
theorem q477 : Cond.static Lib.MathLoose.min_long.x ∈ TB := TB_t 477 (by decide +kernel) (by decide +kernel)
theorem q478 : Cond.code Lib.MathLoose.min_long.x Lib.MathLoose.min_long.code 4 (some .long) ∈ TB := TB_t 478 (by decide +kernel) (by decide +kernel)
theorem q479 : Cond.methodLink RX1 147 yX1_moveAir ∈ TB := TB_t 479 (by decide +kernel) (by decide +kernel)
theorem q480 : Cond.instanceMethod yX1_moveAir ∈ TB := TB_t 480 (by decide +kernel) (by decide +kernel)
theorem q481 : Cond.selects yX1_moveAir.cls yX1_moveAir yX1_moveAir ∈ TB := TB_t 481 (by decide +kernel) (by decide +kernel)
theorem q482 : Cond.code yX1_moveAir cX1_moveAir 2 none ∈ TB := TB_t 482 (by decide +kernel) (by decide +kernel)
theorem q483 : Cond.methodLink RX1 150 yX1_snuffCandles ∈ TB := TB_t 483 (by decide +kernel) (by decide +kernel)
theorem q485 : Cond.instanceMethod yX1_snuffCandles ∈ TB := TB_t 485 (by decide +kernel) (by decide +kernel)
theorem q486 : Cond.code yX1_snuffCandles cX1_snuffCandles 3 none ∈ TB := TB_t 486 (by decide +kernel) (by decide +kernel)
theorem q487 : Cond.methodLink RX1 129 yX1_isLit ∈ TB := TB_t 487 (by decide +kernel) (by decide +kernel)
theorem q488 : Cond.methodLink RX1 133 yX5_valueOf ∈ TB := TB_t 488 (by decide +kernel) (by decide +kernel)
theorem q490 : Cond.methodLink RX1 140 yX1_light ∈ TB := TB_t 490 (by decide +kernel) (by decide +kernel)
theorem q495 : Cond.methodLink RX9 166 yX0_openMany ∈ TB := TB_t 495 (by decide +kernel) (by decide +kernel)
theorem q496 : Cond.instanceMethod yX0_openMany ∈ TB := TB_t 496 (by decide +kernel) (by decide +kernel)
theorem q497 : Cond.selects yX0_openMany.cls yX0_openMany yX0_openMany ∈ TB := TB_t 497 (by decide +kernel) (by decide +kernel)
theorem q498 : Cond.code yX0_openMany cX0_openMany 1 (some .int) ∈ TB := TB_t 498 (by decide +kernel) (by decide +kernel)
theorem q499 : Cond.methodLink RX0 41 yJ6_bitCount_0f7a4 ∈ TB := TB_t 499 (by decide +kernel) (by decide +kernel)
theorem q500 : Cond.methodLink RX9 169 yX1_goRound ∈ TB := TB_t 500 (by decide +kernel) (by decide +kernel)
theorem q501 : Cond.instanceMethod yX1_goRound ∈ TB := TB_t 501 (by decide +kernel) (by decide +kernel)
theorem q502 : Cond.selects yX1_goRound.cls yX1_goRound yX1_goRound ∈ TB := TB_t 502 (by decide +kernel) (by decide +kernel)
theorem q503 : Cond.code yX1_goRound cX1_goRound 3 none ∈ TB := TB_t 503 (by decide +kernel) (by decide +kernel)
theorem q508 : Cond.methodLink RX9 176 yX1_airOfAll ∈ TB := TB_t 508 (by decide +kernel) (by decide +kernel)
theorem q509 : Cond.instanceMethod yX1_airOfAll ∈ TB := TB_t 509 (by decide +kernel) (by decide +kernel)
theorem q510 : Cond.selects yX1_airOfAll.cls yX1_airOfAll yX1_airOfAll ∈ TB := TB_t 510 (by decide +kernel) (by decide +kernel)
theorem q511 : Cond.code yX1_airOfAll cX1_airOfAll 3 (some .int) ∈ TB := TB_t 511 (by decide +kernel) (by decide +kernel)
theorem q512 : Cond.methodLink RX9 179 yX1_scentOfAll ∈ TB := TB_t 512 (by decide +kernel) (by decide +kernel)
theorem q513 : Cond.instanceMethod yX1_scentOfAll ∈ TB := TB_t 513 (by decide +kernel) (by decide +kernel)
theorem q514 : Cond.selects yX1_scentOfAll.cls yX1_scentOfAll yX1_scentOfAll ∈ TB := TB_t 514 (by decide +kernel) (by decide +kernel)
theorem q515 : Cond.code yX1_scentOfAll cX1_scentOfAll 3 (some .int) ∈ TB := TB_t 515 (by decide +kernel) (by decide +kernel)
theorem q520 : Cond.methodLink RX9 188 yX8_behindMinutes ∈ TB := TB_t 520 (by decide +kernel) (by decide +kernel)
theorem q521 : Cond.instanceMethod yX8_behindMinutes ∈ TB := TB_t 521 (by decide +kernel) (by decide +kernel)
theorem q522 : Cond.selects yX8_behindMinutes.cls yX8_behindMinutes yX8_behindMinutes ∈ TB := TB_t 522 (by decide +kernel) (by decide +kernel)
theorem q523 : Cond.code yX8_behindMinutes cX8_behindMinutes 4 (some (.object "OneDraught$Hall")) ∈ TB := TB_t 523 (by decide +kernel) (by decide +kernel)
theorem q524 : Cond.methodLink RX8 18 yX1_takeFrom ∈ TB := TB_t 524 (by decide +kernel) (by decide +kernel)
theorem q525 : Cond.instanceMethod yX1_takeFrom ∈ TB := TB_t 525 (by decide +kernel) (by decide +kernel)
theorem q526 : Cond.selects yX1_takeFrom.cls yX1_takeFrom yX1_takeFrom ∈ TB := TB_t 526 (by decide +kernel) (by decide +kernel)
theorem q527 : Cond.code yX1_takeFrom cX1_takeFrom 2 none ∈ TB := TB_t 527 (by decide +kernel) (by decide +kernel)
theorem q528 : Cond.methodLink RX1 54 yX0_takeFrom ∈ TB := TB_t 528 (by decide +kernel) (by decide +kernel)
theorem q529 : Cond.instanceMethod yX0_takeFrom ∈ TB := TB_t 529 (by decide +kernel) (by decide +kernel)
theorem q530 : Cond.selects yX0_takeFrom.cls yX0_takeFrom yX0_takeFrom ∈ TB := TB_t 530 (by decide +kernel) (by decide +kernel)
theorem q531 : Cond.code yX0_takeFrom cX0_takeFrom 2 none ∈ TB := TB_t 531 (by decide +kernel) (by decide +kernel)
theorem q532 : Cond.methodLink RX0 29 arraycopyName ∈ TB := TB_t 532 (by decide +kernel) (by decide +kernel)
theorem q533 : Cond.methodLink RX1 58 yX5_takeFrom ∈ TB := TB_t 533 (by decide +kernel) (by decide +kernel)
theorem q534 : Cond.instanceMethod yX5_takeFrom ∈ TB := TB_t 534 (by decide +kernel) (by decide +kernel)
theorem q535 : Cond.selects yX5_takeFrom.cls yX5_takeFrom yX5_takeFrom ∈ TB := TB_t 535 (by decide +kernel) (by decide +kernel)
theorem q536 : Cond.code yX5_takeFrom cX5_takeFrom 3 none ∈ TB := TB_t 536 (by decide +kernel) (by decide +kernel)
theorem q537 : Cond.methodLink RX5 39 arraycopyName ∈ TB := TB_t 537 (by decide +kernel) (by decide +kernel)
theorem q538 : Cond.methodLink RX1 61 yX1_takeAirFrom ∈ TB := TB_t 538 (by decide +kernel) (by decide +kernel)
theorem q539 : Cond.instanceMethod yX1_takeAirFrom ∈ TB := TB_t 539 (by decide +kernel) (by decide +kernel)
theorem q540 : Cond.selects yX1_takeAirFrom.cls yX1_takeAirFrom yX1_takeAirFrom ∈ TB := TB_t 540 (by decide +kernel) (by decide +kernel)
theorem q541 : Cond.code yX1_takeAirFrom cX1_takeAirFrom 2 none ∈ TB := TB_t 541 (by decide +kernel) (by decide +kernel)
theorem q542 : Cond.methodLink RX8 22 yX1_passMinute ∈ TB := TB_t 542 (by decide +kernel) (by decide +kernel)
theorem q547 : Cond.methodLink RX9 192 yX8_minutesUntilStill ∈ TB := TB_t 547 (by decide +kernel) (by decide +kernel)
theorem q548 : Cond.instanceMethod yX8_minutesUntilStill ∈ TB := TB_t 548 (by decide +kernel) (by decide +kernel)
theorem q549 : Cond.selects yX8_minutesUntilStill.cls yX8_minutesUntilStill yX8_minutesUntilStill ∈ TB := TB_t 549 (by decide +kernel) (by decide +kernel)
theorem q550 : Cond.code yX8_minutesUntilStill cX8_minutesUntilStill 3 (some .int) ∈ TB := TB_t 550 (by decide +kernel) (by decide +kernel)
theorem q551 : Cond.methodLink RX8 25 yX1_measureFlows ∈ TB := TB_t 551 (by decide +kernel) (by decide +kernel)
theorem q552 : Cond.methodLink RX8 28 yX1_flowsAreNought ∈ TB := TB_t 552 (by decide +kernel) (by decide +kernel)
theorem q553 : Cond.instanceMethod yX1_flowsAreNought ∈ TB := TB_t 553 (by decide +kernel) (by decide +kernel)
theorem q554 : Cond.selects yX1_flowsAreNought.cls yX1_flowsAreNought yX1_flowsAreNought ∈ TB := TB_t 554 (by decide +kernel) (by decide +kernel)
theorem q555 : Cond.code yX1_flowsAreNought cX1_flowsAreNought 2 (some .boolean) ∈ TB := TB_t 555 (by decide +kernel) (by decide +kernel)
theorem q556 : Cond.methodLink RX8 32 yX1_moveAir ∈ TB := TB_t 556 (by decide +kernel) (by decide +kernel)
theorem q557 : Cond.constant RX8 35 (-1000000005) ∈ TB := TB_t 557 (by decide +kernel) (by decide +kernel)
theorem q562 : Cond.methodLink RX9 196 yX8_fewestToShut ∈ TB := TB_t 562 (by decide +kernel) (by decide +kernel)
theorem q563 : Cond.instanceMethod yX8_fewestToShut ∈ TB := TB_t 563 (by decide +kernel) (by decide +kernel)
theorem q564 : Cond.selects yX8_fewestToShut.cls yX8_fewestToShut yX8_fewestToShut ∈ TB := TB_t 564 (by decide +kernel) (by decide +kernel)
theorem q565 : Cond.code yX8_fewestToShut cX8_fewestToShut 9 (some .int) ∈ TB := TB_t 565 (by decide +kernel) (by decide +kernel)
theorem q566 : Cond.methodLink RX8 46 yJ6_bitCount_0f7a4 ∈ TB := TB_t 566 (by decide +kernel) (by decide +kernel)
theorem q567 : Cond.methodLink RX8 52 yX1_takeAirFrom ∈ TB := TB_t 567 (by decide +kernel) (by decide +kernel)
theorem q568 : Cond.methodLink RX8 55 yX8_isCalm ∈ TB := TB_t 568 (by decide +kernel) (by decide +kernel)
theorem q570 : Cond.instanceMethod yX8_isCalm ∈ TB := TB_t 570 (by decide +kernel) (by decide +kernel)
theorem q571 : Cond.code yX8_isCalm cX8_isCalm 5 (some .boolean) ∈ TB := TB_t 571 (by decide +kernel) (by decide +kernel)
theorem q576 : Cond.methodLink RX9 200 yX8_roomsThatSmell ∈ TB := TB_t 576 (by decide +kernel) (by decide +kernel)
theorem q577 : Cond.instanceMethod yX8_roomsThatSmell ∈ TB := TB_t 577 (by decide +kernel) (by decide +kernel)
theorem q578 : Cond.selects yX8_roomsThatSmell.cls yX8_roomsThatSmell yX8_roomsThatSmell ∈ TB := TB_t 578 (by decide +kernel) (by decide +kernel)
theorem q579 : Cond.code yX8_roomsThatSmell cX8_roomsThatSmell 6 (some .int) ∈ TB := TB_t 579 (by decide +kernel) (by decide +kernel)
theorem q580 : Cond.methodLink RX8 66 yJ7_fill_53178 ∈ TB := TB_t 580 (by decide +kernel) (by decide +kernel)
theorem q581 : Cond.methodLink RX8 72 yX1_carryScent ∈ TB := TB_t 581 (by decide +kernel) (by decide +kernel)
theorem q586 : Cond.methodLink RX9 204 yX8_litWith ∈ TB := TB_t 586 (by decide +kernel) (by decide +kernel)
theorem q587 : Cond.instanceMethod yX8_litWith ∈ TB := TB_t 587 (by decide +kernel) (by decide +kernel)
theorem q588 : Cond.selects yX8_litWith.cls yX8_litWith yX8_litWith ∈ TB := TB_t 588 (by decide +kernel) (by decide +kernel)
theorem q589 : Cond.code yX8_litWith cX8_litWith 6 (some .int) ∈ TB := TB_t 589 (by decide +kernel) (by decide +kernel)
theorem q590 : Cond.methodLink RX8 75 yX0_swing ∈ TB := TB_t 590 (by decide +kernel) (by decide +kernel)
theorem q591 : Cond.methodLink RX8 79 yX1_litMany ∈ TB := TB_t 591 (by decide +kernel) (by decide +kernel)
theorem q596 : Cond.methodLink RX9 208 yX8_allStayLit ∈ TB := TB_t 596 (by decide +kernel) (by decide +kernel)
theorem q597 : Cond.instanceMethod yX8_allStayLit ∈ TB := TB_t 597 (by decide +kernel) (by decide +kernel)
theorem q598 : Cond.selects yX8_allStayLit.cls yX8_allStayLit yX8_allStayLit ∈ TB := TB_t 598 (by decide +kernel) (by decide +kernel)
theorem q599 : Cond.code yX8_allStayLit cX8_allStayLit 5 (some .boolean) ∈ TB := TB_t 599 (by decide +kernel) (by decide +kernel)
theorem q600 : Cond.constant RX9 212 (-1000000005) ∈ TB := TB_t 600 (by decide +kernel) (by decide +kernel)
theorem q605 : Cond.methodLink RX9 213 yX9_isSheet ∈ TB := TB_t 605 (by decide +kernel) (by decide +kernel)
theorem q606 : Cond.static yX9_isSheet ∈ TB := TB_t 606 (by decide +kernel) (by decide +kernel)
theorem q607 : Cond.code yX9_isSheet cX9_isSheet 1 (some .boolean) ∈ TB := TB_t 607 (by decide +kernel) (by decide +kernel)
theorem q608 : Cond.methodLink RX9 216 yX6_isMissing ∈ TB := TB_t 608 (by decide +kernel) (by decide +kernel)
theorem q609 : Cond.instanceMethod yX6_isMissing ∈ TB := TB_t 609 (by decide +kernel) (by decide +kernel)
theorem q610 : Cond.selects yX6_isMissing.cls yX6_isMissing yX6_isMissing ∈ TB := TB_t 610 (by decide +kernel) (by decide +kernel)
theorem q611 : Cond.code yX6_isMissing cX6_isMissing 1 (some .boolean) ∈ TB := TB_t 611 (by decide +kernel) (by decide +kernel)
theorem q612 : Cond.constant RX9 220 (-1000000011) ∈ TB := TB_t 612 (by decide +kernel) (by decide +kernel)
theorem q613 : Cond.methodLink RX9 221 yX8_likeliestDoor ∈ TB := TB_t 613 (by decide +kernel) (by decide +kernel)
theorem q614 : Cond.instanceMethod yX8_likeliestDoor ∈ TB := TB_t 614 (by decide +kernel) (by decide +kernel)
theorem q615 : Cond.selects yX8_likeliestDoor.cls yX8_likeliestDoor yX8_likeliestDoor ∈ TB := TB_t 615 (by decide +kernel) (by decide +kernel)
theorem q616 : Cond.code yX8_likeliestDoor cX8_likeliestDoor 8 (some .int) ∈ TB := TB_t 616 (by decide +kernel) (by decide +kernel)
theorem q617 : Cond.methodLink RX8 92 yX8_differenceWith ∈ TB := TB_t 617 (by decide +kernel) (by decide +kernel)
theorem q618 : Cond.instanceMethod yX8_differenceWith ∈ TB := TB_t 618 (by decide +kernel) (by decide +kernel)
theorem q619 : Cond.selects yX8_differenceWith.cls yX8_differenceWith yX8_differenceWith ∈ TB := TB_t 619 (by decide +kernel) (by decide +kernel)
theorem q620 : Cond.code yX8_differenceWith cX8_differenceWith 7 (some .int) ∈ TB := TB_t 620 (by decide +kernel) (by decide +kernel)
theorem q621 : Cond.methodLink RX8 96 yX0_isOpen ∈ TB := TB_t 621 (by decide +kernel) (by decide +kernel)
theorem q622 : Cond.methodLink RX8 100 yX6_hasNumber ∈ TB := TB_t 622 (by decide +kernel) (by decide +kernel)
theorem q623 : Cond.instanceMethod yX6_hasNumber ∈ TB := TB_t 623 (by decide +kernel) (by decide +kernel)
theorem q624 : Cond.selects yX6_hasNumber.cls yX6_hasNumber yX6_hasNumber ∈ TB := TB_t 624 (by decide +kernel) (by decide +kernel)
theorem q625 : Cond.code yX6_hasNumber cX6_hasNumber 2 (some .boolean) ∈ TB := TB_t 625 (by decide +kernel) (by decide +kernel)
theorem q626 : Cond.methodLink RX6 38 yX6_has ∈ TB := TB_t 626 (by decide +kernel) (by decide +kernel)
theorem q627 : Cond.instanceMethod yX6_has ∈ TB := TB_t 627 (by decide +kernel) (by decide +kernel)
theorem q628 : Cond.selects yX6_has.cls yX6_has yX6_has ∈ TB := TB_t 628 (by decide +kernel) (by decide +kernel)
theorem q629 : Cond.code yX6_has cX6_has 2 (some .boolean) ∈ TB := TB_t 629 (by decide +kernel) (by decide +kernel)
theorem q631 : Cond.constant RX6 42 (-1000000005) ∈ TB := TB_t 631 (by decide +kernel) (by decide +kernel)
theorem q632 : Cond.methodLink RX8 108 Lib.Math.abs.name ∈ TB := TB_t 632 (by decide +kernel) (by decide +kernel)
theorem q633 : Cond.methodLink RX9 225 yX8_differenceWith ∈ TB := TB_t 633 (by decide +kernel) (by decide +kernel)
theorem q638 : Cond.methodLink RX9 238 yX5_valueOf ∈ TB := TB_t 638 (by decide +kernel) (by decide +kernel)
theorem q643 : Cond.methodLink RX9 244 yX9_putBytes ∈ TB := TB_t 643 (by decide +kernel) (by decide +kernel)
theorem q645 : Cond.instanceMethod yX9_putBytes ∈ TB := TB_t 645 (by decide +kernel) (by decide +kernel)
theorem q646 : Cond.code yX9_putBytes cX9_putBytes 3 none ∈ TB := TB_t 646 (by decide +kernel) (by decide +kernel)
theorem q659 : Cond.constant RX4 35 (-1000000005) ∈ TB := TB_t 659 (by decide +kernel) (by decide +kernel)
theorem q660 : Cond.methodLink RX4 39 yX4_step ∈ TB := TB_t 660 (by decide +kernel) (by decide +kernel)
theorem q662 : Cond.instanceMethod yX4_step ∈ TB := TB_t 662 (by decide +kernel) (by decide +kernel)
theorem q663 : Cond.code yX4_step cX4_step 3 none ∈ TB := TB_t 663 (by decide +kernel) (by decide +kernel)
theorem q664 : Cond.methodLink RX4 150 yX4_sortAt ∈ TB := TB_t 664 (by decide +kernel) (by decide +kernel)
theorem q666 : Cond.instanceMethod yX4_sortAt ∈ TB := TB_t 666 (by decide +kernel) (by decide +kernel)
theorem q667 : Cond.code yX4_sortAt cX4_sortAt 3 (some .int) ∈ TB := TB_t 667 (by decide +kernel) (by decide +kernel)
theorem q668 : Cond.methodLink RX4 42 yX4_readKey ∈ TB := TB_t 668 (by decide +kernel) (by decide +kernel)
theorem q670 : Cond.instanceMethod yX4_readKey ∈ TB := TB_t 670 (by decide +kernel) (by decide +kernel)
theorem q671 : Cond.code yX4_readKey cX4_readKey 1 none ∈ TB := TB_t 671 (by decide +kernel) (by decide +kernel)
theorem q673 : Cond.methodLink RX4 68 yX4_isWord ∈ TB := TB_t 673 (by decide +kernel) (by decide +kernel)
theorem q675 : Cond.instanceMethod yX4_isWord ∈ TB := TB_t 675 (by decide +kernel) (by decide +kernel)
theorem q676 : Cond.code yX4_isWord cX4_isWord 3 (some .boolean) ∈ TB := TB_t 676 (by decide +kernel) (by decide +kernel)
theorem q677 : Cond.methodLink RX4 138 yJ0_length_8abf5 ∈ TB := TB_t 677 (by decide +kernel) (by decide +kernel)
theorem q678 : Cond.instanceMethod yJ0_length_8abf5 ∈ TB := TB_t 678 (by decide +kernel) (by decide +kernel)
theorem q679 : Cond.selects yJ0_length_8abf5.cls yJ0_length_8abf5 yJ0_length_8abf5 ∈ TB := TB_t 679 (by decide +kernel) (by decide +kernel)
theorem q680 : Cond.code yJ0_length_8abf5 cJ0_length_8abf5 1 (some .int) ∈ TB := TB_t 680 (by decide +kernel) (by decide +kernel)
theorem q681 : Cond.methodLink RJ0 335 yJ0_coder_7d493 ∈ TB := TB_t 681 (by decide +kernel) (by decide +kernel)
theorem q682 : Cond.instanceMethod yJ0_coder_7d493 ∈ TB := TB_t 682 (by decide +kernel) (by decide +kernel)
theorem q683 : Cond.selects yJ0_coder_7d493.cls yJ0_coder_7d493 yJ0_coder_7d493 ∈ TB := TB_t 683 (by decide +kernel) (by decide +kernel)
theorem q684 : Cond.code yJ0_coder_7d493 cJ0_coder_7d493 1 (some .byte) ∈ TB := TB_t 684 (by decide +kernel) (by decide +kernel)
theorem q685 : Cond.fieldLink RJ0 38 "java/lang/String" "COMPACT_STRINGS" "Z" ∈ TB := TB_t 685 (by decide +kernel) (by decide +kernel)
theorem q687 : Cond.methodLink RX4 142 yJ0_charAt_5068e ∈ TB := TB_t 687 (by decide +kernel) (by decide +kernel)
theorem q688 : Cond.instanceMethod yJ0_charAt_5068e ∈ TB := TB_t 688 (by decide +kernel) (by decide +kernel)
theorem q689 : Cond.selects yJ0_charAt_5068e.cls yJ0_charAt_5068e yJ0_charAt_5068e ∈ TB := TB_t 689 (by decide +kernel) (by decide +kernel)
theorem q690 : Cond.code yJ0_charAt_5068e cJ0_charAt_5068e 2 (some .char) ∈ TB := TB_t 690 (by decide +kernel) (by decide +kernel)
theorem q691 : Cond.methodLink RJ0 492 yJ0_isLatin1_aae02 ∈ TB := TB_t 691 (by decide +kernel) (by decide +kernel)
theorem q692 : Cond.instanceMethod yJ0_isLatin1_aae02 ∈ TB := TB_t 692 (by decide +kernel) (by decide +kernel)
theorem q693 : Cond.selects yJ0_isLatin1_aae02.cls yJ0_isLatin1_aae02 yJ0_isLatin1_aae02 ∈ TB := TB_t 693 (by decide +kernel) (by decide +kernel)
theorem q694 : Cond.code yJ0_isLatin1_aae02 cJ0_isLatin1_aae02 1 (some .boolean) ∈ TB := TB_t 694 (by decide +kernel) (by decide +kernel)
theorem q695 : Cond.methodLink RJ0 495 yJ1_charAt_3b067 ∈ TB := TB_t 695 (by decide +kernel) (by decide +kernel)
theorem q696 : Cond.static yJ1_charAt_3b067 ∈ TB := TB_t 696 (by decide +kernel) (by decide +kernel)
theorem q697 : Cond.code yJ1_charAt_3b067 cJ1_charAt_3b067 2 (some .char) ∈ TB := TB_t 697 (by decide +kernel) (by decide +kernel)
theorem q698 : Cond.methodLink RJ1 9 yJ0_checkIndex_df160 ∈ TB := TB_t 698 (by decide +kernel) (by decide +kernel)
theorem q699 : Cond.static yJ0_checkIndex_df160 ∈ TB := TB_t 699 (by decide +kernel) (by decide +kernel)
theorem q700 : Cond.code yJ0_checkIndex_df160 cJ0_checkIndex_df160 2 none ∈ TB := TB_t 700 (by decide +kernel) (by decide +kernel)
theorem q701 : Cond.fieldLink RJ0 1053 "jdk/internal/util/Preconditions" "SIOOBE_FORMATTER" "Ljava/util/function/BiFunction;" ∈ TB := TB_t 701 (by decide +kernel) (by decide +kernel)
theorem q703 : Cond.methodLink RJ0 1059 yJ3_checkIndex_8e157 ∈ TB := TB_t 703 (by decide +kernel) (by decide +kernel)
theorem q704 : Cond.static yJ3_checkIndex_8e157 ∈ TB := TB_t 704 (by decide +kernel) (by decide +kernel)
theorem q705 : Cond.code yJ3_checkIndex_8e157 cJ3_checkIndex_8e157 3 (some .int) ∈ TB := TB_t 705 (by decide +kernel) (by decide +kernel)
theorem q727 : Cond.methodLink RX4 45 yX4_readLevel ∈ TB := TB_t 727 (by decide +kernel) (by decide +kernel)
theorem q729 : Cond.instanceMethod yX4_readLevel ∈ TB := TB_t 729 (by decide +kernel) (by decide +kernel)
theorem q730 : Cond.code yX4_readLevel cX4_readLevel 7 none ∈ TB := TB_t 730 (by decide +kernel) (by decide +kernel)
theorem q731 : Cond.methodLink RX4 88 yX4_readPiece ∈ TB := TB_t 731 (by decide +kernel) (by decide +kernel)
theorem q733 : Cond.instanceMethod yX4_readPiece ∈ TB := TB_t 733 (by decide +kernel) (by decide +kernel)
theorem q734 : Cond.code yX4_readPiece cX4_readPiece 3 none ∈ TB := TB_t 734 (by decide +kernel) (by decide +kernel)
theorem q735 : Cond.methodLink RX4 103 yX4_numberRead ∈ TB := TB_t 735 (by decide +kernel) (by decide +kernel)
theorem q737 : Cond.instanceMethod yX4_numberRead ∈ TB := TB_t 737 (by decide +kernel) (by decide +kernel)
theorem q738 : Cond.code yX4_numberRead cX4_numberRead 3 (some .int) ∈ TB := TB_t 738 (by decide +kernel) (by decide +kernel)
theorem q739 : Cond.methodLink RX4 107 yX4_putLeaf ∈ TB := TB_t 739 (by decide +kernel) (by decide +kernel)
theorem q741 : Cond.instanceMethod yX4_putLeaf ∈ TB := TB_t 741 (by decide +kernel) (by decide +kernel)
theorem q742 : Cond.code yX4_putLeaf cX4_putLeaf 2 none ∈ TB := TB_t 742 (by decide +kernel) (by decide +kernel)
theorem q743 : Cond.methodLink RX4 99 yX4_put ∈ TB := TB_t 743 (by decide +kernel) (by decide +kernel)
theorem q745 : Cond.instanceMethod yX4_put ∈ TB := TB_t 745 (by decide +kernel) (by decide +kernel)
theorem q746 : Cond.code yX4_put cX4_put 2 none ∈ TB := TB_t 746 (by decide +kernel) (by decide +kernel)
theorem q747 : Cond.methodLink RX4 110 yX4_firstName ∈ TB := TB_t 747 (by decide +kernel) (by decide +kernel)
theorem q749 : Cond.instanceMethod yX4_firstName ∈ TB := TB_t 749 (by decide +kernel) (by decide +kernel)
theorem q750 : Cond.code yX4_firstName cX4_firstName 1 (some (.object "java/lang/String")) ∈ TB := TB_t 750 (by decide +kernel) (by decide +kernel)
theorem q754 : Cond.methodLink RX4 114 yX4_secondName ∈ TB := TB_t 754 (by decide +kernel) (by decide +kernel)
theorem q756 : Cond.instanceMethod yX4_secondName ∈ TB := TB_t 756 (by decide +kernel) (by decide +kernel)
theorem q757 : Cond.code yX4_secondName cX4_secondName 1 (some (.object "java/lang/String")) ∈ TB := TB_t 757 (by decide +kernel) (by decide +kernel)
theorem q762 : Cond.methodLink RX4 96 yX4_isSignOf ∈ TB := TB_t 762 (by decide +kernel) (by decide +kernel)
theorem q764 : Cond.instanceMethod yX4_isSignOf ∈ TB := TB_t 764 (by decide +kernel) (by decide +kernel)
theorem q765 : Cond.code yX4_isSignOf cX4_isSignOf 2 (some .boolean) ∈ TB := TB_t 765 (by decide +kernel) (by decide +kernel)
theorem q766 : Cond.methodLink RX4 146 yJ0_indexOf_0f7a4 ∈ TB := TB_t 766 (by decide +kernel) (by decide +kernel)
theorem q767 : Cond.instanceMethod yJ0_indexOf_0f7a4 ∈ TB := TB_t 767 (by decide +kernel) (by decide +kernel)
theorem q768 : Cond.selects yJ0_indexOf_0f7a4.cls yJ0_indexOf_0f7a4 yJ0_indexOf_0f7a4 ∈ TB := TB_t 768 (by decide +kernel) (by decide +kernel)
theorem q769 : Cond.code yJ0_indexOf_0f7a4 cJ0_indexOf_0f7a4 2 (some .int) ∈ TB := TB_t 769 (by decide +kernel) (by decide +kernel)
theorem q770 : Cond.methodLink RJ0 633 yJ0_indexOf_7cf53 ∈ TB := TB_t 770 (by decide +kernel) (by decide +kernel)
theorem q771 : Cond.instanceMethod yJ0_indexOf_7cf53 ∈ TB := TB_t 771 (by decide +kernel) (by decide +kernel)
theorem q772 : Cond.selects yJ0_indexOf_7cf53.cls yJ0_indexOf_7cf53 yJ0_indexOf_7cf53 ∈ TB := TB_t 772 (by decide +kernel) (by decide +kernel)
theorem q773 : Cond.code yJ0_indexOf_7cf53 cJ0_indexOf_7cf53 3 (some .int) ∈ TB := TB_t 773 (by decide +kernel) (by decide +kernel)
theorem q774 : Cond.methodLink RJ0 505 yJ0_length_8abf5 ∈ TB := TB_t 774 (by decide +kernel) (by decide +kernel)
theorem q775 : Cond.methodLink RJ0 637 yJ1_indexOf_4cfef ∈ TB := TB_t 775 (by decide +kernel) (by decide +kernel)
theorem q776 : Cond.static yJ1_indexOf_4cfef ∈ TB := TB_t 776 (by decide +kernel) (by decide +kernel)
theorem q777 : Cond.code yJ1_indexOf_4cfef cJ1_indexOf_4cfef 4 (some .int) ∈ TB := TB_t 777 (by decide +kernel) (by decide +kernel)
theorem q778 : Cond.methodLink RJ1 88 yJ1_canEncode_9a6ad ∈ TB := TB_t 778 (by decide +kernel) (by decide +kernel)
theorem q779 : Cond.static yJ1_canEncode_9a6ad ∈ TB := TB_t 779 (by decide +kernel) (by decide +kernel)
theorem q780 : Cond.code yJ1_canEncode_9a6ad cJ1_canEncode_9a6ad 1 (some .boolean) ∈ TB := TB_t 780 (by decide +kernel) (by decide +kernel)
theorem q781 : Cond.methodLink RJ1 92 Lib.Math.max.name ∈ TB := TB_t 781 (by decide +kernel) (by decide +kernel)
theorem q782 : Cond.methodLink RJ1 38 Lib.Math.min.name ∈ TB := TB_t 782 (by decide +kernel) (by decide +kernel)
theorem q783 : Cond.methodLink RJ1 95 yJ1_indexOfChar_4cfef ∈ TB := TB_t 783 (by decide +kernel) (by decide +kernel)
theorem q784 : Cond.static yJ1_indexOfChar_4cfef ∈ TB := TB_t 784 (by decide +kernel) (by decide +kernel)
theorem q785 : Cond.code yJ1_indexOfChar_4cfef cJ1_indexOfChar_4cfef 6 (some .int) ∈ TB := TB_t 785 (by decide +kernel) (by decide +kernel)
theorem q822 : Cond.methodLink RX4 121 yX4_closeBracket ∈ TB := TB_t 822 (by decide +kernel) (by decide +kernel)
theorem q824 : Cond.instanceMethod yX4_closeBracket ∈ TB := TB_t 824 (by decide +kernel) (by decide +kernel)
theorem q825 : Cond.code yX4_closeBracket cX4_closeBracket 1 none ∈ TB := TB_t 825 (by decide +kernel) (by decide +kernel)
theorem q827 : Cond.methodLink RX4 92 yX4_signsOf ∈ TB := TB_t 827 (by decide +kernel) (by decide +kernel)
theorem q828 : Cond.static yX4_signsOf ∈ TB := TB_t 828 (by decide +kernel) (by decide +kernel)
theorem q829 : Cond.code yX4_signsOf cX4_signsOf 1 (some (.object "java/lang/String")) ∈ TB := TB_t 829 (by decide +kernel) (by decide +kernel)
theorem q858 : Cond.fieldLink RX5 45 (TX3 0).1 (TX3 0).2.1 (TX3 0).2.2.1 ∈ TB := TB_t 858 (by decide +kernel) (by decide +kernel)
theorem q859 : Cond.fieldLink RX9 262 (TX3 0).1 (TX3 0).2.1 (TX3 0).2.2.1 ∈ TB := TB_t 859 (by decide +kernel) (by decide +kernel)
theorem q861 : Cond.fieldLink RX9 267 (TX3 1).1 (TX3 1).2.1 (TX3 1).2.2.1 ∈ TB := TB_t 861 (by decide +kernel) (by decide +kernel)
theorem q862 : Cond.fieldLink RX3 16 (TX3 2).1 (TX3 2).2.1 (TX3 2).2.2.1 ∈ TB := TB_t 862 (by decide +kernel) (by decide +kernel)
theorem q878 : Cond.methodLink RX9 258 yX5_lawAt ∈ TB := TB_t 878 (by decide +kernel) (by decide +kernel)
theorem q887 : Cond.methodLink RX9 273 yX6_become ∈ TB := TB_t 887 (by decide +kernel) (by decide +kernel)
theorem q888 : Cond.instanceMethod yX6_become ∈ TB := TB_t 888 (by decide +kernel) (by decide +kernel)
theorem q889 : Cond.selects yX6_become.cls yX6_become yX6_become ∈ TB := TB_t 889 (by decide +kernel) (by decide +kernel)
theorem q890 : Cond.code yX6_become cX6_become 3 none ∈ TB := TB_t 890 (by decide +kernel) (by decide +kernel)
theorem q891 : Cond.methodLink RX6 22 yJ7_fill_53178 ∈ TB := TB_t 891 (by decide +kernel) (by decide +kernel)
theorem q892 : Cond.constant RX9 277 (-1000000014) ∈ TB := TB_t 892 (by decide +kernel) (by decide +kernel)
theorem q897 : Cond.methodLink RX9 278 yX6_has ∈ TB := TB_t 897 (by decide +kernel) (by decide +kernel)
theorem q898 : Cond.constant RX9 279 (-1000000013) ∈ TB := TB_t 898 (by decide +kernel) (by decide +kernel)
theorem q899 : Cond.constant RX9 286 (-99999) ∈ TB := TB_t 899 (by decide +kernel) (by decide +kernel)
theorem q900 : Cond.constant RX9 287 99999 ∈ TB := TB_t 900 (by decide +kernel) (by decide +kernel)
theorem q905 : Cond.methodLink RX9 288 yX6_hasNumber ∈ TB := TB_t 905 (by decide +kernel) (by decide +kernel)
theorem q906 : Cond.methodLink RX9 291 yX9_heldWithin ∈ TB := TB_t 906 (by decide +kernel) (by decide +kernel)
theorem q915 : Cond.methodLink RX9 296 yX6_hasRange ∈ TB := TB_t 915 (by decide +kernel) (by decide +kernel)
theorem q916 : Cond.instanceMethod yX6_hasRange ∈ TB := TB_t 916 (by decide +kernel) (by decide +kernel)
theorem q917 : Cond.selects yX6_hasRange.cls yX6_hasRange yX6_hasRange ∈ TB := TB_t 917 (by decide +kernel) (by decide +kernel)
theorem q918 : Cond.code yX6_hasRange cX6_hasRange 3 (some .boolean) ∈ TB := TB_t 918 (by decide +kernel) (by decide +kernel)
theorem q919 : Cond.methodLink RX9 299 arraycopyName ∈ TB := TB_t 919 (by decide +kernel) (by decide +kernel)
theorem q924 : Cond.methodLink RX9 305 yX9_isSlot ∈ TB := TB_t 924 (by decide +kernel) (by decide +kernel)
theorem q925 : Cond.static yX9_isSlot ∈ TB := TB_t 925 (by decide +kernel) (by decide +kernel)
theorem q926 : Cond.code yX9_isSlot cX9_isSlot 1 (some .boolean) ∈ TB := TB_t 926 (by decide +kernel) (by decide +kernel)
theorem q927 : Cond.methodLink RX9 308 yX9_canLay ∈ TB := TB_t 927 (by decide +kernel) (by decide +kernel)
theorem q929 : Cond.instanceMethod yX9_canLay ∈ TB := TB_t 929 (by decide +kernel) (by decide +kernel)
theorem q930 : Cond.code yX9_canLay cX9_canLay 3 (some .boolean) ∈ TB := TB_t 930 (by decide +kernel) (by decide +kernel)
theorem q931 : Cond.methodLink RX9 322 yX6_takeFrom ∈ TB := TB_t 931 (by decide +kernel) (by decide +kernel)
theorem q932 : Cond.instanceMethod yX6_takeFrom ∈ TB := TB_t 932 (by decide +kernel) (by decide +kernel)
theorem q933 : Cond.selects yX6_takeFrom.cls yX6_takeFrom yX6_takeFrom ∈ TB := TB_t 933 (by decide +kernel) (by decide +kernel)
theorem q934 : Cond.code yX6_takeFrom cX6_takeFrom 2 none ∈ TB := TB_t 934 (by decide +kernel) (by decide +kernel)
theorem q935 : Cond.methodLink RX6 28 arraycopyName ∈ TB := TB_t 935 (by decide +kernel) (by decide +kernel)
theorem q948 : Cond.constant RX9 329 (-1000000002) ∈ TB := TB_t 948 (by decide +kernel) (by decide +kernel)
theorem q957 : Cond.methodLink RX9 337 yX8_rightOnes ∈ TB := TB_t 957 (by decide +kernel) (by decide +kernel)
theorem q958 : Cond.instanceMethod yX8_rightOnes ∈ TB := TB_t 958 (by decide +kernel) (by decide +kernel)
theorem q959 : Cond.selects yX8_rightOnes.cls yX8_rightOnes yX8_rightOnes ∈ TB := TB_t 959 (by decide +kernel) (by decide +kernel)
theorem q960 : Cond.code yX8_rightOnes cX8_rightOnes 8 (some .int) ∈ TB := TB_t 960 (by decide +kernel) (by decide +kernel)
theorem q961 : Cond.methodLink RX8 113 yX1_minutesLeft ∈ TB := TB_t 961 (by decide +kernel) (by decide +kernel)
theorem q962 : Cond.methodLink RX8 116 Lib.Math.min.name ∈ TB := TB_t 962 (by decide +kernel) (by decide +kernel)
theorem q963 : Cond.methodLink RX8 120 yX1_airOfAll ∈ TB := TB_t 963 (by decide +kernel) (by decide +kernel)
theorem q968 : Cond.methodLink RX9 341 yX1_takeFrom ∈ TB := TB_t 968 (by decide +kernel) (by decide +kernel)
theorem q1447 : Cond.fieldLink RJ0 9 "java/lang/String" "value" "[B" ∈ TB := TB_t 1447 (by decide +kernel) (by decide +kernel)
theorem q1448 : Cond.fieldLink RJ0 15 "java/lang/String" "coder" "B" ∈ TB := TB_t 1448 (by decide +kernel) (by decide +kernel)
theorem i_X0 : ∀ w ∈ u_ws RX0 TX0 6, w ∈ TB := by
  have h : (u_ws RX0 TX0 6).all (fun w => decide (w ∈ tables_1) && goodWord w) = true := by decide +kernel
  intro w hw
  have h1 := List.all_eq_true.mp h w hw
  rw [Bool.and_eq_true, decide_eq_true_eq] at h1
  exact List.mem_filter.mpr ⟨List.mem_append_right _ h1.1, h1.2⟩
theorem i_X1 : ∀ w ∈ u_ws RX1 TX1 12, w ∈ TB := by
  have h : (u_ws RX1 TX1 12).all (fun w => decide (w ∈ tables_1) && goodWord w) = true := by decide +kernel
  intro w hw
  have h1 := List.all_eq_true.mp h w hw
  rw [Bool.and_eq_true, decide_eq_true_eq] at h1
  exact List.mem_filter.mpr ⟨List.mem_append_right _ h1.1, h1.2⟩
theorem i_X3 : ∀ w ∈ u_ws RX3 TX3 3, w ∈ TB := by
  have h : (u_ws RX3 TX3 3).all (fun w => decide (w ∈ tables_1) && goodWord w) = true := by decide +kernel
  intro w hw
  have h1 := List.all_eq_true.mp h w hw
  rw [Bool.and_eq_true, decide_eq_true_eq] at h1
  exact List.mem_filter.mpr ⟨List.mem_append_right _ h1.1, h1.2⟩
theorem i_X4 : ∀ w ∈ u_ws RX4 TX4 10, w ∈ TB := by
  have h : (u_ws RX4 TX4 10).all (fun w => decide (w ∈ tables_1) && goodWord w) = true := by decide +kernel
  intro w hw
  have h1 := List.all_eq_true.mp h w hw
  rw [Bool.and_eq_true, decide_eq_true_eq] at h1
  exact List.mem_filter.mpr ⟨List.mem_append_right _ h1.1, h1.2⟩
theorem i_X5 : ∀ w ∈ u_ws RX5 TX5 5, w ∈ TB := by
  have h : (u_ws RX5 TX5 5).all (fun w => decide (w ∈ tables_1) && goodWord w) = true := by decide +kernel
  intro w hw
  have h1 := List.all_eq_true.mp h w hw
  rw [Bool.and_eq_true, decide_eq_true_eq] at h1
  exact List.mem_filter.mpr ⟨List.mem_append_right _ h1.1, h1.2⟩
theorem i_X6 : ∀ w ∈ u_ws RX6 TX6 3, w ∈ TB := by
  have h : (u_ws RX6 TX6 3).all (fun w => decide (w ∈ tables_1) && goodWord w) = true := by decide +kernel
  intro w hw
  have h1 := List.all_eq_true.mp h w hw
  rw [Bool.and_eq_true, decide_eq_true_eq] at h1
  exact List.mem_filter.mpr ⟨List.mem_append_right _ h1.1, h1.2⟩
theorem i_X7 : ∀ w ∈ u_ws RX7 TX7 5, w ∈ TB := by
  have h : (u_ws RX7 TX7 5).all (fun w => decide (w ∈ tables_1) && goodWord w) = true := by decide +kernel
  intro w hw
  have h1 := List.all_eq_true.mp h w hw
  rw [Bool.and_eq_true, decide_eq_true_eq] at h1
  exact List.mem_filter.mpr ⟨List.mem_append_right _ h1.1, h1.2⟩
theorem i_X8 : ∀ w ∈ u_ws RX8 TX8 1, w ∈ TB := by
  have h : (u_ws RX8 TX8 1).all (fun w => decide (w ∈ tables_1) && goodWord w) = true := by decide +kernel
  intro w hw
  have h1 := List.all_eq_true.mp h w hw
  rw [Bool.and_eq_true, decide_eq_true_eq] at h1
  exact List.mem_filter.mpr ⟨List.mem_append_right _ h1.1, h1.2⟩
theorem i_X9 : ∀ w ∈ u_ws RX9 TX9 11, w ∈ TB := by
  have h : (u_ws RX9 TX9 11).all (fun w => decide (w ∈ tables_1) && goodWord w) = true := by decide +kernel
  intro w hw
  have h1 := List.all_eq_true.mp h w hw
  rw [Bool.and_eq_true, decide_eq_true_eq] at h1
  exact List.mem_filter.mpr ⟨List.mem_append_right _ h1.1, h1.2⟩
theorem gC_X0_9 {x : En} {E : Amd} {D : va_G} {ca : Nat → ClassId} {h : Nat → Nat} {nl : Nat} {cc : ByteArray} {nL fr lo : Nat} {M : Mem} {pc : Nat} {V : List (Option Value)} {rest : List Value} {b : Nat} (hb : b < 3) (K : Kx x E D (tysOf ca) h (LaC ca h nl) RX0 cc nL fr lo) (hd : decode cc pc = .ok (.getfield 9, 3)) (kk : Go x D (tysOf ca) h (LaC ca h nl) nL M (pc + 3) V (.ref (h (HB b + 2)) :: rest)) : Go x D (tysOf ca) h (LaC ca h nl) nL M (pc) V (.ref (h (HB b + 1)) :: rest) := o_get K 2 (ltDoors hb) (obDoors_c (ca := ca) hb _) rfl (by decide) i_X0 q49 rfl rfl hd kk
theorem gC_X0_13 {x : En} {E : Amd} {D : va_G} {ca : Nat → ClassId} {h : Nat → Nat} {nl : Nat} {cc : ByteArray} {nL fr lo : Nat} {M : Mem} {pc : Nat} {V : List (Option Value)} {rest : List Value} {b : Nat} (hb : b < 3) (K : Kx x E D (tysOf ca) h (LaC ca h nl) RX0 cc nL fr lo) (hd : decode cc pc = .ok (.getfield 13, 3)) (kk : Go x D (tysOf ca) h (LaC ca h nl) nL M (pc + 3) V (.ref (h (HB b + 3)) :: rest)) : Go x D (tysOf ca) h (LaC ca h nl) nL M (pc) V (.ref (h (HB b + 1)) :: rest) := o_get K 3 (ltDoors hb) (obDoors_c (ca := ca) hb _) rfl (by decide) i_X0 q52 rfl rfl hd kk
theorem gC_X0_16 {x : En} {E : Amd} {D : va_G} {ca : Nat → ClassId} {h : Nat → Nat} {nl : Nat} {cc : ByteArray} {nL fr lo : Nat} {M : Mem} {pc : Nat} {V : List (Option Value)} {rest : List Value} {b : Nat} (hb : b < 3) (K : Kx x E D (tysOf ca) h (LaC ca h nl) RX0 cc nL fr lo) (hd : decode cc pc = .ok (.getfield 16, 3)) (kk : Go x D (tysOf ca) h (LaC ca h nl) nL M (pc + 3) V (.ref (h (HB b + 4)) :: rest)) : Go x D (tysOf ca) h (LaC ca h nl) nL M (pc) V (.ref (h (HB b + 1)) :: rest) := o_get K 4 (ltDoors hb) (obDoors_c (ca := ca) hb _) rfl (by decide) i_X0 q55 rfl rfl hd kk
theorem gC_X0_19 {x : En} {E : Amd} {D : va_G} {ca : Nat → ClassId} {h : Nat → Nat} {nl : Nat} {cc : ByteArray} {nL fr lo : Nat} {M : Mem} {pc : Nat} {V : List (Option Value)} {rest : List Value} {b : Nat} (hb : b < 3) (K : Kx x E D (tysOf ca) h (LaC ca h nl) RX0 cc nL fr lo) (hd : decode cc pc = .ok (.getfield 19, 3)) (kk : Go x D (tysOf ca) h (LaC ca h nl) nL M (pc + 3) V (.ref (h (HB b + 5)) :: rest)) : Go x D (tysOf ca) h (LaC ca h nl) nL M (pc) V (.ref (h (HB b + 1)) :: rest) := o_get K 5 (ltDoors hb) (obDoors_c (ca := ca) hb _) rfl (by decide) i_X0 q58 rfl rfl hd kk
theorem gC_X0_22 {x : En} {E : Amd} {D : va_G} {ca : Nat → ClassId} {h : Nat → Nat} {nl : Nat} {cc : ByteArray} {nL fr lo : Nat} {M : Mem} {pc : Nat} {V : List (Option Value)} {rest : List Value} {b : Nat} (hb : b < 3) (K : Kx x E D (tysOf ca) h (LaC ca h nl) RX0 cc nL fr lo) (hd : decode cc pc = .ok (.getfield 22, 3)) (kk : Go x D (tysOf ca) h (LaC ca h nl) nL M (pc + 3) V (.int (M (HB b + 1) 0) :: rest)) : Go x D (tysOf ca) h (LaC ca h nl) nL M (pc) V (.ref (h (HB b + 1)) :: rest) := o_get K 0 (ltDoors hb) (obDoors_c (ca := ca) hb _) rfl (by decide) i_X0 q41 rfl rfl hd kk
theorem gC_X0_26 {x : En} {E : Amd} {D : va_G} {ca : Nat → ClassId} {h : Nat → Nat} {nl : Nat} {cc : ByteArray} {nL fr lo : Nat} {M : Mem} {pc : Nat} {V : List (Option Value)} {rest : List Value} {b : Nat} (hb : b < 3) (K : Kx x E D (tysOf ca) h (LaC ca h nl) RX0 cc nL fr lo) (hd : decode cc pc = .ok (.getfield 26, 3)) (kk : Go x D (tysOf ca) h (LaC ca h nl) nL M (pc + 3) V (.int (M (HB b + 1) 1) :: rest)) : Go x D (tysOf ca) h (LaC ca h nl) nL M (pc) V (.ref (h (HB b + 1)) :: rest) := o_get K 1 (ltDoors hb) (obDoors_c (ca := ca) hb _) rfl (by decide) i_X0 q45 rfl rfl hd kk
theorem gC_X1_12 {x : En} {E : Amd} {D : va_G} {ca : Nat → ClassId} {h : Nat → Nat} {nl : Nat} {cc : ByteArray} {nL fr lo : Nat} {M : Mem} {pc : Nat} {V : List (Option Value)} {rest : List Value} {b : Nat} (hb : b < 3) (K : Kx x E D (tysOf ca) h (LaC ca h nl) RX1 cc nL fr lo) (hd : decode cc pc = .ok (.getfield 12, 3)) (kk : Go x D (tysOf ca) h (LaC ca h nl) nL M (pc + 3) V (.ref (h (HB b + 1)) :: rest)) : Go x D (tysOf ca) h (LaC ca h nl) nL M (pc) V (.ref (h (HB b)) :: rest) := o_get K 0 (ltHall hb) (obHall_c (ca := ca) hb _) rfl (by decide) i_X1 q140 rfl rfl hd kk
theorem gC_X1_21 {x : En} {E : Amd} {D : va_G} {ca : Nat → ClassId} {h : Nat → Nat} {nl : Nat} {cc : ByteArray} {nL fr lo : Nat} {M : Mem} {pc : Nat} {V : List (Option Value)} {rest : List Value} {b : Nat} (hb : b < 3) (K : Kx x E D (tysOf ca) h (LaC ca h nl) RX1 cc nL fr lo) (hd : decode cc pc = .ok (.getfield 21, 3)) (kk : Go x D (tysOf ca) h (LaC ca h nl) nL M (pc + 3) V (.ref (h (HB b + 6)) :: rest)) : Go x D (tysOf ca) h (LaC ca h nl) nL M (pc) V (.ref (h (HB b)) :: rest) := o_get K 1 (ltHall hb) (obHall_c (ca := ca) hb _) rfl (by decide) i_X1 q143 rfl rfl hd kk
theorem gC_X1_25 {x : En} {E : Amd} {D : va_G} {ca : Nat → ClassId} {h : Nat → Nat} {nl : Nat} {cc : ByteArray} {nL fr lo : Nat} {M : Mem} {pc : Nat} {V : List (Option Value)} {rest : List Value} {b : Nat} (hb : b < 3) (K : Kx x E D (tysOf ca) h (LaC ca h nl) RX1 cc nL fr lo) (hd : decode cc pc = .ok (.getfield 25, 3)) (kk : Go x D (tysOf ca) h (LaC ca h nl) nL M (pc + 3) V (.ref (h (HB b + 11)) :: rest)) : Go x D (tysOf ca) h (LaC ca h nl) nL M (pc) V (.ref (h (HB b)) :: rest) := o_get K 2 (ltHall hb) (obHall_c (ca := ca) hb _) rfl (by decide) i_X1 q145 rfl rfl hd kk
theorem gC_X1_29 {x : En} {E : Amd} {D : va_G} {ca : Nat → ClassId} {h : Nat → Nat} {nl : Nat} {cc : ByteArray} {nL fr lo : Nat} {M : Mem} {pc : Nat} {V : List (Option Value)} {rest : List Value} {b : Nat} (hb : b < 3) (K : Kx x E D (tysOf ca) h (LaC ca h nl) RX1 cc nL fr lo) (hd : decode cc pc = .ok (.getfield 29, 3)) (kk : Go x D (tysOf ca) h (LaC ca h nl) nL M (pc + 3) V (.ref (h (HB b + 12)) :: rest)) : Go x D (tysOf ca) h (LaC ca h nl) nL M (pc) V (.ref (h (HB b)) :: rest) := o_get K 3 (ltHall hb) (obHall_c (ca := ca) hb _) rfl (by decide) i_X1 q148 rfl rfl hd kk
theorem gC_X1_32 {x : En} {E : Amd} {D : va_G} {ca : Nat → ClassId} {h : Nat → Nat} {nl : Nat} {cc : ByteArray} {nL fr lo : Nat} {M : Mem} {pc : Nat} {V : List (Option Value)} {rest : List Value} {b : Nat} (hb : b < 3) (K : Kx x E D (tysOf ca) h (LaC ca h nl) RX1 cc nL fr lo) (hd : decode cc pc = .ok (.getfield 32, 3)) (kk : Go x D (tysOf ca) h (LaC ca h nl) nL M (pc + 3) V (.ref (h (HB b + 13)) :: rest)) : Go x D (tysOf ca) h (LaC ca h nl) nL M (pc) V (.ref (h (HB b)) :: rest) := o_get K 4 (ltHall hb) (obHall_c (ca := ca) hb _) rfl (by decide) i_X1 q150 rfl rfl hd kk
theorem gC_X1_35 {x : En} {E : Amd} {D : va_G} {ca : Nat → ClassId} {h : Nat → Nat} {nl : Nat} {cc : ByteArray} {nL fr lo : Nat} {M : Mem} {pc : Nat} {V : List (Option Value)} {rest : List Value} {b : Nat} (hb : b < 3) (K : Kx x E D (tysOf ca) h (LaC ca h nl) RX1 cc nL fr lo) (hd : decode cc pc = .ok (.getfield 35, 3)) (kk : Go x D (tysOf ca) h (LaC ca h nl) nL M (pc + 3) V (.int (M (HB b) 8) :: rest)) : Go x D (tysOf ca) h (LaC ca h nl) nL M (pc) V (.ref (h (HB b)) :: rest) := o_get K 8 (ltHall hb) (obHall_c (ca := ca) hb _) rfl (by decide) i_X1 q160 rfl rfl hd kk
theorem gC_X1_39 {x : En} {E : Amd} {D : va_G} {ca : Nat → ClassId} {h : Nat → Nat} {nl : Nat} {cc : ByteArray} {nL fr lo : Nat} {M : Mem} {pc : Nat} {V : List (Option Value)} {rest : List Value} {b : Nat} (hb : b < 3) (K : Kx x E D (tysOf ca) h (LaC ca h nl) RX1 cc nL fr lo) (hd : decode cc pc = .ok (.getfield 39, 3)) (kk : Go x D (tysOf ca) h (LaC ca h nl) nL M (pc + 3) V (.ref (h (HB b + 14)) :: rest)) : Go x D (tysOf ca) h (LaC ca h nl) nL M (pc) V (.ref (h (HB b)) :: rest) := o_get K 9 (ltHall hb) (obHall_c (ca := ca) hb _) rfl (by decide) i_X1 q162 rfl rfl hd kk
theorem gC_X1_42 {x : En} {E : Amd} {D : va_G} {ca : Nat → ClassId} {h : Nat → Nat} {nl : Nat} {cc : ByteArray} {nL fr lo : Nat} {M : Mem} {pc : Nat} {V : List (Option Value)} {rest : List Value} {b : Nat} (hb : b < 3) (K : Kx x E D (tysOf ca) h (LaC ca h nl) RX1 cc nL fr lo) (hd : decode cc pc = .ok (.getfield 42, 3)) (kk : Go x D (tysOf ca) h (LaC ca h nl) nL M (pc + 3) V (.ref (h (HB b + 15)) :: rest)) : Go x D (tysOf ca) h (LaC ca h nl) nL M (pc) V (.ref (h (HB b)) :: rest) := o_get K 10 (ltHall hb) (obHall_c (ca := ca) hb _) rfl (by decide) i_X1 q163 rfl rfl hd kk
theorem gC_X1_45 {x : En} {E : Amd} {D : va_G} {ca : Nat → ClassId} {h : Nat → Nat} {nl : Nat} {cc : ByteArray} {nL fr lo : Nat} {M : Mem} {pc : Nat} {V : List (Option Value)} {rest : List Value} {b : Nat} (hb : b < 3) (K : Kx x E D (tysOf ca) h (LaC ca h nl) RX1 cc nL fr lo) (hd : decode cc pc = .ok (.getfield 45, 3)) (kk : Go x D (tysOf ca) h (LaC ca h nl) nL M (pc + 3) V (.ref (h (HB b + 16)) :: rest)) : Go x D (tysOf ca) h (LaC ca h nl) nL M (pc) V (.ref (h (HB b)) :: rest) := o_get K 11 (ltHall hb) (obHall_c (ca := ca) hb _) rfl (by decide) i_X1 q165 rfl rfl hd kk
theorem gC_X1_71 {x : En} {E : Amd} {D : va_G} {ca : Nat → ClassId} {h : Nat → Nat} {nl : Nat} {cc : ByteArray} {nL fr lo : Nat} {M : Mem} {pc : Nat} {V : List (Option Value)} {rest : List Value} {b : Nat} (hb : b < 3) (K : Kx x E D (tysOf ca) h (LaC ca h nl) RX1 cc nL fr lo) (hd : decode cc pc = .ok (.getfield 71, 3)) (kk : Go x D (tysOf ca) h (LaC ca h nl) nL M (pc + 3) V (.int (M (HB b) 5) :: rest)) : Go x D (tysOf ca) h (LaC ca h nl) nL M (pc) V (.ref (h (HB b)) :: rest) := o_get K 5 (ltHall hb) (obHall_c (ca := ca) hb _) rfl (by decide) i_X1 q153 rfl rfl hd kk
theorem gC_X1_74 {x : En} {E : Amd} {D : va_G} {ca : Nat → ClassId} {h : Nat → Nat} {nl : Nat} {cc : ByteArray} {nL fr lo : Nat} {M : Mem} {pc : Nat} {V : List (Option Value)} {rest : List Value} {b : Nat} (hb : b < 3) (K : Kx x E D (tysOf ca) h (LaC ca h nl) RX1 cc nL fr lo) (hd : decode cc pc = .ok (.getfield 74, 3)) (kk : Go x D (tysOf ca) h (LaC ca h nl) nL M (pc + 3) V (.int (M (HB b) 6) :: rest)) : Go x D (tysOf ca) h (LaC ca h nl) nL M (pc) V (.ref (h (HB b)) :: rest) := o_get K 6 (ltHall hb) (obHall_c (ca := ca) hb _) rfl (by decide) i_X1 q156 rfl rfl hd kk
theorem gC_X1_77 {x : En} {E : Amd} {D : va_G} {ca : Nat → ClassId} {h : Nat → Nat} {nl : Nat} {cc : ByteArray} {nL fr lo : Nat} {M : Mem} {pc : Nat} {V : List (Option Value)} {rest : List Value} {b : Nat} (hb : b < 3) (K : Kx x E D (tysOf ca) h (LaC ca h nl) RX1 cc nL fr lo) (hd : decode cc pc = .ok (.getfield 77, 3)) (kk : Go x D (tysOf ca) h (LaC ca h nl) nL M (pc + 3) V (.int (M (HB b) 7) :: rest)) : Go x D (tysOf ca) h (LaC ca h nl) nL M (pc) V (.ref (h (HB b)) :: rest) := o_get K 7 (ltHall hb) (obHall_c (ca := ca) hb _) rfl (by decide) i_X1 q158 rfl rfl hd kk
theorem gC_X1_92 {x : En} {E : Amd} {D : va_G} {ca : Nat → ClassId} {h : Nat → Nat} {nl : Nat} {cc : ByteArray} {nL fr lo : Nat} {M : Mem} {pc : Nat} {V : List (Option Value)} {rest : List Value} {b : Nat} (hb : b < 3) (K : Kx x E D (tysOf ca) h (LaC ca h nl) RX1 cc nL fr lo) (hd : decode cc pc = .ok (.getfield 92, 3)) (kk : Go x D (tysOf ca) h (LaC ca h nl) nL M (pc + 3) V (.ref (h (HB b + 2)) :: rest)) : Go x D (tysOf ca) h (LaC ca h nl) nL M (pc) V (.ref (h (HB b + 1)) :: rest) := o_get K 2 (ltDoors hb) (obDoors_c (ca := ca) hb _) rfl (by decide) i_X0 q51 rfl rfl hd kk
theorem gC_X1_95 {x : En} {E : Amd} {D : va_G} {ca : Nat → ClassId} {h : Nat → Nat} {nl : Nat} {cc : ByteArray} {nL fr lo : Nat} {M : Mem} {pc : Nat} {V : List (Option Value)} {rest : List Value} {b : Nat} (hb : b < 3) (K : Kx x E D (tysOf ca) h (LaC ca h nl) RX1 cc nL fr lo) (hd : decode cc pc = .ok (.getfield 95, 3)) (kk : Go x D (tysOf ca) h (LaC ca h nl) nL M (pc + 3) V (.ref (h (HB b + 5)) :: rest)) : Go x D (tysOf ca) h (LaC ca h nl) nL M (pc) V (.ref (h (HB b + 1)) :: rest) := o_get K 5 (ltDoors hb) (obDoors_c (ca := ca) hb _) rfl (by decide) i_X0 q60 rfl rfl hd kk
theorem gC_X1_98 {x : En} {E : Amd} {D : va_G} {ca : Nat → ClassId} {h : Nat → Nat} {nl : Nat} {cc : ByteArray} {nL fr lo : Nat} {M : Mem} {pc : Nat} {V : List (Option Value)} {rest : List Value} {b : Nat} (hb : b < 3) (K : Kx x E D (tysOf ca) h (LaC ca h nl) RX1 cc nL fr lo) (hd : decode cc pc = .ok (.getfield 98, 3)) (kk : Go x D (tysOf ca) h (LaC ca h nl) nL M (pc + 3) V (.int (M (HB b + 1) 1) :: rest)) : Go x D (tysOf ca) h (LaC ca h nl) nL M (pc) V (.ref (h (HB b + 1)) :: rest) := o_get K 1 (ltDoors hb) (obDoors_c (ca := ca) hb _) rfl (by decide) i_X0 q47 rfl rfl hd kk
theorem gC_X1_105 {x : En} {E : Amd} {D : va_G} {ca : Nat → ClassId} {h : Nat → Nat} {nl : Nat} {cc : ByteArray} {nL fr lo : Nat} {M : Mem} {pc : Nat} {V : List (Option Value)} {rest : List Value} {b : Nat} (hb : b < 3) (K : Kx x E D (tysOf ca) h (LaC ca h nl) RX1 cc nL fr lo) (hd : decode cc pc = .ok (.getfield 105, 3)) (kk : Go x D (tysOf ca) h (LaC ca h nl) nL M (pc + 3) V (.ref (h (HB b + 3)) :: rest)) : Go x D (tysOf ca) h (LaC ca h nl) nL M (pc) V (.ref (h (HB b + 1)) :: rest) := o_get K 3 (ltDoors hb) (obDoors_c (ca := ca) hb _) rfl (by decide) i_X0 q54 rfl rfl hd kk
theorem gC_X1_108 {x : En} {E : Amd} {D : va_G} {ca : Nat → ClassId} {h : Nat → Nat} {nl : Nat} {cc : ByteArray} {nL fr lo : Nat} {M : Mem} {pc : Nat} {V : List (Option Value)} {rest : List Value} {b : Nat} (hb : b < 3) (K : Kx x E D (tysOf ca) h (LaC ca h nl) RX1 cc nL fr lo) (hd : decode cc pc = .ok (.getfield 108, 3)) (kk : Go x D (tysOf ca) h (LaC ca h nl) nL M (pc + 3) V (.ref (h (HB b + 4)) :: rest)) : Go x D (tysOf ca) h (LaC ca h nl) nL M (pc) V (.ref (h (HB b + 1)) :: rest) := o_get K 4 (ltDoors hb) (obDoors_c (ca := ca) hb _) rfl (by decide) i_X0 q57 rfl rfl hd kk
theorem gC_X1_116 {x : En} {E : Amd} {D : va_G} {ca : Nat → ClassId} {h : Nat → Nat} {nl : Nat} {cc : ByteArray} {nL fr lo : Nat} {M : Mem} {pc : Nat} {V : List (Option Value)} {rest : List Value} {b : Nat} (hb : b < 3) (K : Kx x E D (tysOf ca) h (LaC ca h nl) RX1 cc nL fr lo) (hd : decode cc pc = .ok (.getfield 116, 3)) (kk : Go x D (tysOf ca) h (LaC ca h nl) nL M (pc + 3) V (.int (M (HB b + 1) 0) :: rest)) : Go x D (tysOf ca) h (LaC ca h nl) nL M (pc) V (.ref (h (HB b + 1)) :: rest) := o_get K 0 (ltDoors hb) (obDoors_c (ca := ca) hb _) rfl (by decide) i_X0 q44 rfl rfl hd kk
theorem gC_X3_16 {x : En} {E : Amd} {D : va_G} {ca : Nat → ClassId} {h : Nat → Nat} {nl : Nat} {cc : ByteArray} {nL fr lo : Nat} {M : Mem} {pc : Nat} {V : List (Option Value)} {rest : List Value} {c : Nat} (hc : 1 ≤ c ∧ c ≤ nl) (K : Kx x E D (tysOf ca) h (LaC ca h nl) RX3 cc nL fr lo) (hd : decode cc pc = .ok (.getfield 16, 3)) (kk : Go x D (tysOf ca) h (LaC ca h nl) nL M (pc + 3) V (.ref (h (81 + 2 * c)) :: rest)) : Go x D (tysOf ca) h (LaC ca h nl) nL M (pc) V (.ref (h (80 + 2 * c)) :: rest) := o_get K 2 (ltLaw hc) (obLaw_c (ca := ca) hc _) rfl (by decide) i_X3 q862 rfl rfl hd kk
theorem gC_X4_9 {x : En} {E : Amd} {D : va_G} {ca : Nat → ClassId} {h : Nat → Nat} {nl : Nat} {cc : ByteArray} {nL fr lo : Nat} {M : Mem} {pc : Nat} {V : List (Option Value)} {rest : List Value} (K : Kx x E D (tysOf ca) h (LaC ca h nl) RX4 cc nL fr lo) (hd : decode cc pc = .ok (.getfield 9, 3)) (kk : Go x D (tysOf ca) h (LaC ca h nl) nL M (pc + 3) V (.ref (h 55) :: rest)) : Go x D (tysOf ca) h (LaC ca h nl) nL M (pc) V (.ref (h 54) :: rest) := o_get K 7 (ltReader) (obReader_c (ca := ca) _) rfl (by decide) i_X4 q216 rfl rfl hd kk
theorem gC_X4_15 {x : En} {E : Amd} {D : va_G} {ca : Nat → ClassId} {h : Nat → Nat} {nl : Nat} {cc : ByteArray} {nL fr lo : Nat} {M : Mem} {pc : Nat} {V : List (Option Value)} {rest : List Value} (K : Kx x E D (tysOf ca) h (LaC ca h nl) RX4 cc nL fr lo) (hd : decode cc pc = .ok (.getfield 15, 3)) (kk : Go x D (tysOf ca) h (LaC ca h nl) nL M (pc + 3) V (.ref (h 53) :: rest)) : Go x D (tysOf ca) h (LaC ca h nl) nL M (pc) V (.ref (h 54) :: rest) := o_get K 0 (ltReader) (obReader_c (ca := ca) _) rfl (by decide) i_X4 q209 rfl rfl hd kk
theorem gC_X4_19 {x : En} {E : Amd} {D : va_G} {ca : Nat → ClassId} {h : Nat → Nat} {nl : Nat} {cc : ByteArray} {nL fr lo : Nat} {M : Mem} {pc : Nat} {V : List (Option Value)} {rest : List Value} (K : Kx x E D (tysOf ca) h (LaC ca h nl) RX4 cc nL fr lo) (hd : decode cc pc = .ok (.getfield 19, 3)) (kk : Go x D (tysOf ca) h (LaC ca h nl) nL M (pc + 3) V (.int (M 54 1) :: rest)) : Go x D (tysOf ca) h (LaC ca h nl) nL M (pc) V (.ref (h 54) :: rest) := o_get K 1 (ltReader) (obReader_c (ca := ca) _) rfl (by decide) i_X4 q210 rfl rfl hd kk
theorem gC_X4_23 {x : En} {E : Amd} {D : va_G} {ca : Nat → ClassId} {h : Nat → Nat} {nl : Nat} {cc : ByteArray} {nL fr lo : Nat} {M : Mem} {pc : Nat} {V : List (Option Value)} {rest : List Value} (K : Kx x E D (tysOf ca) h (LaC ca h nl) RX4 cc nL fr lo) (hd : decode cc pc = .ok (.getfield 23, 3)) (kk : Go x D (tysOf ca) h (LaC ca h nl) nL M (pc + 3) V (.int (M 54 3) :: rest)) : Go x D (tysOf ca) h (LaC ca h nl) nL M (pc) V (.ref (h 54) :: rest) := o_get K 3 (ltReader) (obReader_c (ca := ca) _) rfl (by decide) i_X4 q212 rfl rfl hd kk
theorem gC_X4_26 {x : En} {E : Amd} {D : va_G} {ca : Nat → ClassId} {h : Nat → Nat} {nl : Nat} {cc : ByteArray} {nL fr lo : Nat} {M : Mem} {pc : Nat} {V : List (Option Value)} {rest : List Value} (K : Kx x E D (tysOf ca) h (LaC ca h nl) RX4 cc nL fr lo) (hd : decode cc pc = .ok (.getfield 26, 3)) (kk : Go x D (tysOf ca) h (LaC ca h nl) nL M (pc + 3) V (.int (M 54 4) :: rest)) : Go x D (tysOf ca) h (LaC ca h nl) nL M (pc) V (.ref (h 54) :: rest) := o_get K 4 (ltReader) (obReader_c (ca := ca) _) rfl (by decide) i_X4 q213 rfl rfl hd kk
theorem gC_X4_29 {x : En} {E : Amd} {D : va_G} {ca : Nat → ClassId} {h : Nat → Nat} {nl : Nat} {cc : ByteArray} {nL fr lo : Nat} {M : Mem} {pc : Nat} {V : List (Option Value)} {rest : List Value} (K : Kx x E D (tysOf ca) h (LaC ca h nl) RX4 cc nL fr lo) (hd : decode cc pc = .ok (.getfield 29, 3)) (kk : Go x D (tysOf ca) h (LaC ca h nl) nL M (pc + 3) V (.int (M 54 6) :: rest)) : Go x D (tysOf ca) h (LaC ca h nl) nL M (pc) V (.ref (h 54) :: rest) := o_get K 6 (ltReader) (obReader_c (ca := ca) _) rfl (by decide) i_X4 q215 rfl rfl hd kk
theorem gC_X4_32 {x : En} {E : Amd} {D : va_G} {ca : Nat → ClassId} {h : Nat → Nat} {nl : Nat} {cc : ByteArray} {nL fr lo : Nat} {M : Mem} {pc : Nat} {V : List (Option Value)} {rest : List Value} (K : Kx x E D (tysOf ca) h (LaC ca h nl) RX4 cc nL fr lo) (hd : decode cc pc = .ok (.getfield 32, 3)) (kk : Go x D (tysOf ca) h (LaC ca h nl) nL M (pc + 3) V (.int (M 54 8) :: rest)) : Go x D (tysOf ca) h (LaC ca h nl) nL M (pc) V (.ref (h 54) :: rest) := o_get K 8 (ltReader) (obReader_c (ca := ca) _) rfl (by decide) i_X4 q217 rfl rfl hd kk
theorem gC_X4_36 {x : En} {E : Amd} {D : va_G} {ca : Nat → ClassId} {h : Nat → Nat} {nl : Nat} {cc : ByteArray} {nL fr lo : Nat} {M : Mem} {pc : Nat} {V : List (Option Value)} {rest : List Value} (K : Kx x E D (tysOf ca) h (LaC ca h nl) RX4 cc nL fr lo) (hd : decode cc pc = .ok (.getfield 36, 3)) (kk : Go x D (tysOf ca) h (LaC ca h nl) nL M (pc + 3) V (.int (M 54 9) :: rest)) : Go x D (tysOf ca) h (LaC ca h nl) nL M (pc) V (.ref (h 54) :: rest) := o_get K 9 (ltReader) (obReader_c (ca := ca) _) rfl (by decide) i_X4 q218 rfl rfl hd kk
theorem gC_X4_49 {x : En} {E : Amd} {D : va_G} {ca : Nat → ClassId} {h : Nat → Nat} {nl : Nat} {cc : ByteArray} {nL fr lo : Nat} {M : Mem} {pc : Nat} {V : List (Option Value)} {rest : List Value} (K : Kx x E D (tysOf ca) h (LaC ca h nl) RX4 cc nL fr lo) (hd : decode cc pc = .ok (.getfield 49, 3)) (kk : Go x D (tysOf ca) h (LaC ca h nl) nL M (pc + 3) V (.int (M 54 2) :: rest)) : Go x D (tysOf ca) h (LaC ca h nl) nL M (pc) V (.ref (h 54) :: rest) := o_get K 2 (ltReader) (obReader_c (ca := ca) _) rfl (by decide) i_X4 q211 rfl rfl hd kk
theorem gC_X4_54 {x : En} {E : Amd} {D : va_G} {ca : Nat → ClassId} {h : Nat → Nat} {nl : Nat} {cc : ByteArray} {nL fr lo : Nat} {M : Mem} {pc : Nat} {V : List (Option Value)} {rest : List Value} (K : Kx x E D (tysOf ca) h (LaC ca h nl) RX4 cc nL fr lo) (hd : decode cc pc = .ok (.getfield 54, 3)) (kk : Go x D (tysOf ca) h (LaC ca h nl) nL M (pc + 3) V (.int (M 54 5) :: rest)) : Go x D (tysOf ca) h (LaC ca h nl) nL M (pc) V (.ref (h 54) :: rest) := o_get K 5 (ltReader) (obReader_c (ca := ca) _) rfl (by decide) i_X4 q214 rfl rfl hd kk
theorem gC_X5_16 {x : En} {E : Amd} {D : va_G} {ca : Nat → ClassId} {h : Nat → Nat} {nl : Nat} {cc : ByteArray} {nL fr lo : Nat} {M : Mem} {pc : Nat} {V : List (Option Value)} {rest : List Value} {b : Nat} (hb : b < 3) (K : Kx x E D (tysOf ca) h (LaC ca h nl) RX5 cc nL fr lo) (hd : decode cc pc = .ok (.getfield 16, 3)) (kk : Go x D (tysOf ca) h (LaC ca h nl) nL M (pc + 3) V (.ref (h (HB b + 7)) :: rest)) : Go x D (tysOf ca) h (LaC ca h nl) nL M (pc) V (.ref (h (HB b + 6)) :: rest) := o_get K 1 (ltLaws hb) (obLaws_c (ca := ca) hb _) rfl (by decide) i_X5 q121 rfl rfl hd kk
theorem gC_X5_22 {x : En} {E : Amd} {D : va_G} {ca : Nat → ClassId} {h : Nat → Nat} {nl : Nat} {cc : ByteArray} {nL fr lo : Nat} {M : Mem} {pc : Nat} {V : List (Option Value)} {rest : List Value} {b : Nat} (hb : b < 3) (K : Kx x E D (tysOf ca) h (LaC ca h nl) RX5 cc nL fr lo) (hd : decode cc pc = .ok (.getfield 22, 3)) (kk : Go x D (tysOf ca) h (LaC ca h nl) nL M (pc + 3) V (.ref (h (HB b + 8)) :: rest)) : Go x D (tysOf ca) h (LaC ca h nl) nL M (pc) V (.ref (h (HB b + 6)) :: rest) := o_get K 2 (ltLaws hb) (obLaws_c (ca := ca) hb _) rfl (by decide) i_X5 q123 rfl rfl hd kk
theorem gC_X5_26 {x : En} {E : Amd} {D : va_G} {ca : Nat → ClassId} {h : Nat → Nat} {nl : Nat} {cc : ByteArray} {nL fr lo : Nat} {M : Mem} {pc : Nat} {V : List (Option Value)} {rest : List Value} {b : Nat} (hb : b < 3) (K : Kx x E D (tysOf ca) h (LaC ca h nl) RX5 cc nL fr lo) (hd : decode cc pc = .ok (.getfield 26, 3)) (kk : Go x D (tysOf ca) h (LaC ca h nl) nL M (pc + 3) V (.ref (h (HB b + 9)) :: rest)) : Go x D (tysOf ca) h (LaC ca h nl) nL M (pc) V (.ref (h (HB b + 6)) :: rest) := o_get K 3 (ltLaws hb) (obLaws_c (ca := ca) hb _) rfl (by decide) i_X5 q124 rfl rfl hd kk
theorem gC_X5_29 {x : En} {E : Amd} {D : va_G} {ca : Nat → ClassId} {h : Nat → Nat} {nl : Nat} {cc : ByteArray} {nL fr lo : Nat} {M : Mem} {pc : Nat} {V : List (Option Value)} {rest : List Value} {b : Nat} (hb : b < 3) (K : Kx x E D (tysOf ca) h (LaC ca h nl) RX5 cc nL fr lo) (hd : decode cc pc = .ok (.getfield 29, 3)) (kk : Go x D (tysOf ca) h (LaC ca h nl) nL M (pc + 3) V (.ref (h (HB b + 10)) :: rest)) : Go x D (tysOf ca) h (LaC ca h nl) nL M (pc) V (.ref (h (HB b + 6)) :: rest) := o_get K 4 (ltLaws hb) (obLaws_c (ca := ca) hb _) rfl (by decide) i_X5 q125 rfl rfl hd kk
theorem gC_X5_35 {x : En} {E : Amd} {D : va_G} {ca : Nat → ClassId} {h : Nat → Nat} {nl : Nat} {cc : ByteArray} {nL fr lo : Nat} {M : Mem} {pc : Nat} {V : List (Option Value)} {rest : List Value} {b : Nat} (hb : b < 3) (K : Kx x E D (tysOf ca) h (LaC ca h nl) RX5 cc nL fr lo) (hd : decode cc pc = .ok (.getfield 35, 3)) (kk : Go x D (tysOf ca) h (LaC ca h nl) nL M (pc + 3) V (.int (M (HB b + 6) 0) :: rest)) : Go x D (tysOf ca) h (LaC ca h nl) nL M (pc) V (.ref (h (HB b + 6)) :: rest) := o_get K 0 (ltLaws hb) (obLaws_c (ca := ca) hb _) rfl (by decide) i_X5 q119 rfl rfl hd kk
theorem gC_X5_45 {x : En} {E : Amd} {D : va_G} {ca : Nat → ClassId} {h : Nat → Nat} {nl : Nat} {cc : ByteArray} {nL fr lo : Nat} {M : Mem} {pc : Nat} {V : List (Option Value)} {rest : List Value} {c : Nat} (hc : 1 ≤ c ∧ c ≤ nl) (K : Kx x E D (tysOf ca) h (LaC ca h nl) RX5 cc nL fr lo) (hd : decode cc pc = .ok (.getfield 45, 3)) (kk : Go x D (tysOf ca) h (LaC ca h nl) nL M (pc + 3) V (.int (M (80 + 2 * c) 0) :: rest)) : Go x D (tysOf ca) h (LaC ca h nl) nL M (pc) V (.ref (h (80 + 2 * c)) :: rest) := o_get K 0 (ltLaw hc) (obLaw_c (ca := ca) hc _) rfl (by decide) i_X3 q858 rfl rfl hd kk
theorem gC_X6_11 {x : En} {E : Amd} {D : va_G} {ca : Nat → ClassId} {h : Nat → Nat} {nl : Nat} {cc : ByteArray} {nL fr lo : Nat} {M : Mem} {pc : Nat} {V : List (Option Value)} {rest : List Value} {s : Nat} (hs : ShOK ca h s) (K : Kx x E D (tysOf ca) h (LaC ca h nl) RX6 cc nL fr lo) (hd : decode cc pc = .ok (.getfield 11, 3)) (kk : Go x D (tysOf ca) h (LaC ca h nl) nL M (pc + 3) V (.int (M s 0) :: rest)) : Go x D (tysOf ca) h (LaC ca h nl) nL M (pc) V (.ref (h s) :: rest) := o_get K 0 (ltSheet hs) (obSheet_c (ca := ca) hs _) rfl (by decide) i_X6 q250 rfl rfl hd kk
theorem gC_X6_15 {x : En} {E : Amd} {D : va_G} {ca : Nat → ClassId} {h : Nat → Nat} {nl : Nat} {cc : ByteArray} {nL fr lo : Nat} {M : Mem} {pc : Nat} {V : List (Option Value)} {rest : List Value} {s : Nat} (hs : ShOK ca h s) (K : Kx x E D (tysOf ca) h (LaC ca h nl) RX6 cc nL fr lo) (hd : decode cc pc = .ok (.getfield 15, 3)) (kk : Go x D (tysOf ca) h (LaC ca h nl) nL M (pc + 3) V (.ref (h (s + 1)) :: rest)) : Go x D (tysOf ca) h (LaC ca h nl) nL M (pc) V (.ref (h s) :: rest) := o_get K 2 (ltSheet hs) (obSheet_c (ca := ca) hs _) rfl (by decide) i_X6 q254 rfl rfl hd kk
theorem gC_X6_19 {x : En} {E : Amd} {D : va_G} {ca : Nat → ClassId} {h : Nat → Nat} {nl : Nat} {cc : ByteArray} {nL fr lo : Nat} {M : Mem} {pc : Nat} {V : List (Option Value)} {rest : List Value} {s : Nat} (hs : ShOK ca h s) (K : Kx x E D (tysOf ca) h (LaC ca h nl) RX6 cc nL fr lo) (hd : decode cc pc = .ok (.getfield 19, 3)) (kk : Go x D (tysOf ca) h (LaC ca h nl) nL M (pc + 3) V (.int (M s 1) :: rest)) : Go x D (tysOf ca) h (LaC ca h nl) nL M (pc) V (.ref (h s) :: rest) := o_get K 1 (ltSheet hs) (obSheet_c (ca := ca) hs _) rfl (by decide) i_X6 q252 rfl rfl hd kk
theorem gC_X8_12 {x : En} {E : Amd} {D : va_G} {ca : Nat → ClassId} {h : Nat → Nat} {nl : Nat} {cc : ByteArray} {nL fr lo : Nat} {M : Mem} {pc : Nat} {V : List (Option Value)} {rest : List Value} (K : Kx x E D (tysOf ca) h (LaC ca h nl) RX8 cc nL fr lo) (hd : decode cc pc = .ok (.getfield 12, 3)) (kk : Go x D (tysOf ca) h (LaC ca h nl) nL M (pc + 3) V (.ref (h (HB 2)) :: rest)) : Go x D (tysOf ca) h (LaC ca h nl) nL M (pc) V (.ref (h 52) :: rest) := o_get K 0 (ltThought) (obThought_c (ca := ca) (fun _ => 0)) rfl (by decide) i_X8 q199 rfl rfl hd kk
theorem gC_X8_36 {x : En} {E : Amd} {D : va_G} {ca : Nat → ClassId} {h : Nat → Nat} {nl : Nat} {cc : ByteArray} {nL fr lo : Nat} {M : Mem} {pc : Nat} {V : List (Option Value)} {rest : List Value} {b : Nat} (hb : b < 3) (K : Kx x E D (tysOf ca) h (LaC ca h nl) RX8 cc nL fr lo) (hd : decode cc pc = .ok (.getfield 36, 3)) (kk : Go x D (tysOf ca) h (LaC ca h nl) nL M (pc + 3) V (.ref (h (HB b + 1)) :: rest)) : Go x D (tysOf ca) h (LaC ca h nl) nL M (pc) V (.ref (h (HB b)) :: rest) := o_get K 0 (ltHall hb) (obHall_c (ca := ca) hb _) rfl (by decide) i_X1 q142 rfl rfl hd kk
theorem gC_X8_40 {x : En} {E : Amd} {D : va_G} {ca : Nat → ClassId} {h : Nat → Nat} {nl : Nat} {cc : ByteArray} {nL fr lo : Nat} {M : Mem} {pc : Nat} {V : List (Option Value)} {rest : List Value} {b : Nat} (hb : b < 3) (K : Kx x E D (tysOf ca) h (LaC ca h nl) RX8 cc nL fr lo) (hd : decode cc pc = .ok (.getfield 40, 3)) (kk : Go x D (tysOf ca) h (LaC ca h nl) nL M (pc + 3) V (.int (M (HB b + 1) 1) :: rest)) : Go x D (tysOf ca) h (LaC ca h nl) nL M (pc) V (.ref (h (HB b + 1)) :: rest) := o_get K 1 (ltDoors hb) (obDoors_c (ca := ca) hb _) rfl (by decide) i_X0 q46 rfl rfl hd kk
theorem gC_X8_59 {x : En} {E : Amd} {D : va_G} {ca : Nat → ClassId} {h : Nat → Nat} {nl : Nat} {cc : ByteArray} {nL fr lo : Nat} {M : Mem} {pc : Nat} {V : List (Option Value)} {rest : List Value} {b : Nat} (hb : b < 3) (K : Kx x E D (tysOf ca) h (LaC ca h nl) RX8 cc nL fr lo) (hd : decode cc pc = .ok (.getfield 59, 3)) (kk : Go x D (tysOf ca) h (LaC ca h nl) nL M (pc + 3) V (.ref (h (HB b + 15)) :: rest)) : Go x D (tysOf ca) h (LaC ca h nl) nL M (pc) V (.ref (h (HB b)) :: rest) := o_get K 10 (ltHall hb) (obHall_c (ca := ca) hb _) rfl (by decide) i_X1 q164 rfl rfl hd kk
theorem gC_X8_63 {x : En} {E : Amd} {D : va_G} {ca : Nat → ClassId} {h : Nat → Nat} {nl : Nat} {cc : ByteArray} {nL fr lo : Nat} {M : Mem} {pc : Nat} {V : List (Option Value)} {rest : List Value} {b : Nat} (hb : b < 3) (K : Kx x E D (tysOf ca) h (LaC ca h nl) RX8 cc nL fr lo) (hd : decode cc pc = .ok (.getfield 63, 3)) (kk : Go x D (tysOf ca) h (LaC ca h nl) nL M (pc + 3) V (.ref (h (HB b + 13)) :: rest)) : Go x D (tysOf ca) h (LaC ca h nl) nL M (pc) V (.ref (h (HB b)) :: rest) := o_get K 4 (ltHall hb) (obHall_c (ca := ca) hb _) rfl (by decide) i_X1 q151 rfl rfl hd kk
theorem gC_X8_83 {x : En} {E : Amd} {D : va_G} {ca : Nat → ClassId} {h : Nat → Nat} {nl : Nat} {cc : ByteArray} {nL fr lo : Nat} {M : Mem} {pc : Nat} {V : List (Option Value)} {rest : List Value} {b : Nat} (hb : b < 3) (K : Kx x E D (tysOf ca) h (LaC ca h nl) RX8 cc nL fr lo) (hd : decode cc pc = .ok (.getfield 83, 3)) (kk : Go x D (tysOf ca) h (LaC ca h nl) nL M (pc + 3) V (.ref (h (HB b + 11)) :: rest)) : Go x D (tysOf ca) h (LaC ca h nl) nL M (pc) V (.ref (h (HB b)) :: rest) := o_get K 2 (ltHall hb) (obHall_c (ca := ca) hb _) rfl (by decide) i_X1 q147 rfl rfl hd kk
theorem gC_X8_86 {x : En} {E : Amd} {D : va_G} {ca : Nat → ClassId} {h : Nat → Nat} {nl : Nat} {cc : ByteArray} {nL fr lo : Nat} {M : Mem} {pc : Nat} {V : List (Option Value)} {rest : List Value} {b : Nat} (hb : b < 3) (K : Kx x E D (tysOf ca) h (LaC ca h nl) RX8 cc nL fr lo) (hd : decode cc pc = .ok (.getfield 86, 3)) (kk : Go x D (tysOf ca) h (LaC ca h nl) nL M (pc + 3) V (.int (M (HB b) 5) :: rest)) : Go x D (tysOf ca) h (LaC ca h nl) nL M (pc) V (.ref (h (HB b)) :: rest) := o_get K 5 (ltHall hb) (obHall_c (ca := ca) hb _) rfl (by decide) i_X1 q154 rfl rfl hd kk
theorem gC_X8_89 {x : En} {E : Amd} {D : va_G} {ca : Nat → ClassId} {h : Nat → Nat} {nl : Nat} {cc : ByteArray} {nL fr lo : Nat} {M : Mem} {pc : Nat} {V : List (Option Value)} {rest : List Value} {b : Nat} (hb : b < 3) (K : Kx x E D (tysOf ca) h (LaC ca h nl) RX8 cc nL fr lo) (hd : decode cc pc = .ok (.getfield 89, 3)) (kk : Go x D (tysOf ca) h (LaC ca h nl) nL M (pc + 3) V (.int (M (HB b + 1) 0) :: rest)) : Go x D (tysOf ca) h (LaC ca h nl) nL M (pc) V (.ref (h (HB b + 1)) :: rest) := o_get K 0 (ltDoors hb) (obDoors_c (ca := ca) hb _) rfl (by decide) i_X0 q43 rfl rfl hd kk
theorem gC_X8_105 {x : En} {E : Amd} {D : va_G} {ca : Nat → ClassId} {h : Nat → Nat} {nl : Nat} {cc : ByteArray} {nL fr lo : Nat} {M : Mem} {pc : Nat} {V : List (Option Value)} {rest : List Value} {s : Nat} (hs : ShOK ca h s) (K : Kx x E D (tysOf ca) h (LaC ca h nl) RX8 cc nL fr lo) (hd : decode cc pc = .ok (.getfield 105, 3)) (kk : Go x D (tysOf ca) h (LaC ca h nl) nL M (pc + 3) V (.ref (h (s + 1)) :: rest)) : Go x D (tysOf ca) h (LaC ca h nl) nL M (pc) V (.ref (h s) :: rest) := o_get K 2 (ltSheet hs) (obSheet_c (ca := ca) hs _) rfl (by decide) i_X6 q255 rfl rfl hd kk
theorem gC_X9_10 {x : En} {E : Amd} {D : va_G} {ca : Nat → ClassId} {h : Nat → Nat} {nl : Nat} {cc : ByteArray} {nL fr lo : Nat} {M : Mem} {pc : Nat} {V : List (Option Value)} {rest : List Value} (K : Kx x E D (tysOf ca) h (LaC ca h nl) RX9 cc nL fr lo) (hd : decode cc pc = .ok (.getfield 10, 3)) (kk : Go x D (tysOf ca) h (LaC ca h nl) nL M (pc + 3) V (.ref (h (HB 0)) :: rest)) : Go x D (tysOf ca) h (LaC ca h nl) nL M (pc) V (.ref (h 0) :: rest) := o_get K 0 (ltOne) (obOne_c (ca := ca) _) rfl (by decide) i_X9 q289 rfl rfl hd kk
theorem gC_X9_16 {x : En} {E : Amd} {D : va_G} {ca : Nat → ClassId} {h : Nat → Nat} {nl : Nat} {cc : ByteArray} {nL fr lo : Nat} {M : Mem} {pc : Nat} {V : List (Option Value)} {rest : List Value} (K : Kx x E D (tysOf ca) h (LaC ca h nl) RX9 cc nL fr lo) (hd : decode cc pc = .ok (.getfield 16, 3)) (kk : Go x D (tysOf ca) h (LaC ca h nl) nL M (pc + 3) V (.ref (h (HB 1)) :: rest)) : Go x D (tysOf ca) h (LaC ca h nl) nL M (pc) V (.ref (h 0) :: rest) := o_get K 1 (ltOne) (obOne_c (ca := ca) _) rfl (by decide) i_X9 q290 rfl rfl hd kk
theorem gC_X9_22 {x : En} {E : Amd} {D : va_G} {ca : Nat → ClassId} {h : Nat → Nat} {nl : Nat} {cc : ByteArray} {nL fr lo : Nat} {M : Mem} {pc : Nat} {V : List (Option Value)} {rest : List Value} (K : Kx x E D (tysOf ca) h (LaC ca h nl) RX9 cc nL fr lo) (hd : decode cc pc = .ok (.getfield 22, 3)) (kk : Go x D (tysOf ca) h (LaC ca h nl) nL M (pc + 3) V (.ref (h 52) :: rest)) : Go x D (tysOf ca) h (LaC ca h nl) nL M (pc) V (.ref (h 0) :: rest) := o_get K 3 (ltOne) (obOne_c (ca := ca) _) rfl (by decide) i_X9 q292 rfl rfl hd kk
theorem gC_X9_26 {x : En} {E : Amd} {D : va_G} {ca : Nat → ClassId} {h : Nat → Nat} {nl : Nat} {cc : ByteArray} {nL fr lo : Nat} {M : Mem} {pc : Nat} {V : List (Option Value)} {rest : List Value} (K : Kx x E D (tysOf ca) h (LaC ca h nl) RX9 cc nL fr lo) (hd : decode cc pc = .ok (.getfield 26, 3)) (kk : Go x D (tysOf ca) h (LaC ca h nl) nL M (pc + 3) V (.ref (h 53) :: rest)) : Go x D (tysOf ca) h (LaC ca h nl) nL M (pc) V (.ref (h 0) :: rest) := o_get K 4 (ltOne) (obOne_c (ca := ca) _) rfl (by decide) i_X9 q293 rfl rfl hd kk
theorem gC_X9_41 {x : En} {E : Amd} {D : va_G} {ca : Nat → ClassId} {h : Nat → Nat} {nl : Nat} {cc : ByteArray} {nL fr lo : Nat} {M : Mem} {pc : Nat} {V : List (Option Value)} {rest : List Value} (K : Kx x E D (tysOf ca) h (LaC ca h nl) RX9 cc nL fr lo) (hd : decode cc pc = .ok (.getfield 41, 3)) (kk : Go x D (tysOf ca) h (LaC ca h nl) nL M (pc + 3) V (.ref (h 56) :: rest)) : Go x D (tysOf ca) h (LaC ca h nl) nL M (pc) V (.ref (h 0) :: rest) := o_get K 7 (ltOne) (obOne_c (ca := ca) _) rfl (by decide) i_X9 q296 rfl rfl hd kk
theorem gC_X9_47 {x : En} {E : Amd} {D : va_G} {ca : Nat → ClassId} {h : Nat → Nat} {nl : Nat} {cc : ByteArray} {nL fr lo : Nat} {M : Mem} {pc : Nat} {V : List (Option Value)} {rest : List Value} (K : Kx x E D (tysOf ca) h (LaC ca h nl) RX9 cc nL fr lo) (hd : decode cc pc = .ok (.getfield 47, 3)) (kk : Go x D (tysOf ca) h (LaC ca h nl) nL M (pc + 3) V (.ref (h 65) :: rest)) : Go x D (tysOf ca) h (LaC ca h nl) nL M (pc) V (.ref (h 0) :: rest) := o_get K 8 (ltOne) (obOne_c (ca := ca) _) rfl (by decide) i_X9 q297 rfl rfl hd kk
theorem gC_X9_51 {x : En} {E : Amd} {D : va_G} {ca : Nat → ClassId} {h : Nat → Nat} {nl : Nat} {cc : ByteArray} {nL fr lo : Nat} {M : Mem} {pc : Nat} {V : List (Option Value)} {rest : List Value} (K : Kx x E D (tysOf ca) h (LaC ca h nl) RX9 cc nL fr lo) (hd : decode cc pc = .ok (.getfield 51, 3)) (kk : Go x D (tysOf ca) h (LaC ca h nl) nL M (pc + 3) V (.ref (h 81) :: rest)) : Go x D (tysOf ca) h (LaC ca h nl) nL M (pc) V (.ref (h 0) :: rest) := o_get K 9 (ltOne) (obOne_c (ca := ca) _) rfl (by decide) i_X9 q298 rfl rfl hd kk
theorem gC_X9_73 {x : En} {E : Amd} {D : va_G} {ca : Nat → ClassId} {h : Nat → Nat} {nl : Nat} {cc : ByteArray} {nL fr lo : Nat} {M : Mem} {pc : Nat} {V : List (Option Value)} {rest : List Value} {b : Nat} (hb : b < 3) (K : Kx x E D (tysOf ca) h (LaC ca h nl) RX9 cc nL fr lo) (hd : decode cc pc = .ok (.getfield 73, 3)) (kk : Go x D (tysOf ca) h (LaC ca h nl) nL M (pc + 3) V (.ref (h (HB b + 1)) :: rest)) : Go x D (tysOf ca) h (LaC ca h nl) nL M (pc) V (.ref (h (HB b)) :: rest) := o_get K 0 (ltHall hb) (obHall_c (ca := ca) hb _) rfl (by decide) i_X1 q141 rfl rfl hd kk
theorem gC_X9_77 {x : En} {E : Amd} {D : va_G} {ca : Nat → ClassId} {h : Nat → Nat} {nl : Nat} {cc : ByteArray} {nL fr lo : Nat} {M : Mem} {pc : Nat} {V : List (Option Value)} {rest : List Value} {b : Nat} (hb : b < 3) (K : Kx x E D (tysOf ca) h (LaC ca h nl) RX9 cc nL fr lo) (hd : decode cc pc = .ok (.getfield 77, 3)) (kk : Go x D (tysOf ca) h (LaC ca h nl) nL M (pc + 3) V (.int (M (HB b + 1) 0) :: rest)) : Go x D (tysOf ca) h (LaC ca h nl) nL M (pc) V (.ref (h (HB b + 1)) :: rest) := o_get K 0 (ltDoors hb) (obDoors_c (ca := ca) hb _) rfl (by decide) i_X0 q42 rfl rfl hd kk
theorem gC_X9_89 {x : En} {E : Amd} {D : va_G} {ca : Nat → ClassId} {h : Nat → Nat} {nl : Nat} {cc : ByteArray} {nL fr lo : Nat} {M : Mem} {pc : Nat} {V : List (Option Value)} {rest : List Value} {b : Nat} (hb : b < 3) (K : Kx x E D (tysOf ca) h (LaC ca h nl) RX9 cc nL fr lo) (hd : decode cc pc = .ok (.getfield 89, 3)) (kk : Go x D (tysOf ca) h (LaC ca h nl) nL M (pc + 3) V (.ref (h (HB b + 2)) :: rest)) : Go x D (tysOf ca) h (LaC ca h nl) nL M (pc) V (.ref (h (HB b + 1)) :: rest) := o_get K 2 (ltDoors hb) (obDoors_c (ca := ca) hb _) rfl (by decide) i_X0 q50 rfl rfl hd kk
theorem gC_X9_92 {x : En} {E : Amd} {D : va_G} {ca : Nat → ClassId} {h : Nat → Nat} {nl : Nat} {cc : ByteArray} {nL fr lo : Nat} {M : Mem} {pc : Nat} {V : List (Option Value)} {rest : List Value} {b : Nat} (hb : b < 3) (K : Kx x E D (tysOf ca) h (LaC ca h nl) RX9 cc nL fr lo) (hd : decode cc pc = .ok (.getfield 92, 3)) (kk : Go x D (tysOf ca) h (LaC ca h nl) nL M (pc + 3) V (.ref (h (HB b + 3)) :: rest)) : Go x D (tysOf ca) h (LaC ca h nl) nL M (pc) V (.ref (h (HB b + 1)) :: rest) := o_get K 3 (ltDoors hb) (obDoors_c (ca := ca) hb _) rfl (by decide) i_X0 q53 rfl rfl hd kk
theorem gC_X9_95 {x : En} {E : Amd} {D : va_G} {ca : Nat → ClassId} {h : Nat → Nat} {nl : Nat} {cc : ByteArray} {nL fr lo : Nat} {M : Mem} {pc : Nat} {V : List (Option Value)} {rest : List Value} {b : Nat} (hb : b < 3) (K : Kx x E D (tysOf ca) h (LaC ca h nl) RX9 cc nL fr lo) (hd : decode cc pc = .ok (.getfield 95, 3)) (kk : Go x D (tysOf ca) h (LaC ca h nl) nL M (pc + 3) V (.ref (h (HB b + 4)) :: rest)) : Go x D (tysOf ca) h (LaC ca h nl) nL M (pc) V (.ref (h (HB b + 1)) :: rest) := o_get K 4 (ltDoors hb) (obDoors_c (ca := ca) hb _) rfl (by decide) i_X0 q56 rfl rfl hd kk
theorem gC_X9_98 {x : En} {E : Amd} {D : va_G} {ca : Nat → ClassId} {h : Nat → Nat} {nl : Nat} {cc : ByteArray} {nL fr lo : Nat} {M : Mem} {pc : Nat} {V : List (Option Value)} {rest : List Value} {b : Nat} (hb : b < 3) (K : Kx x E D (tysOf ca) h (LaC ca h nl) RX9 cc nL fr lo) (hd : decode cc pc = .ok (.getfield 98, 3)) (kk : Go x D (tysOf ca) h (LaC ca h nl) nL M (pc + 3) V (.ref (h (HB b + 5)) :: rest)) : Go x D (tysOf ca) h (LaC ca h nl) nL M (pc) V (.ref (h (HB b + 1)) :: rest) := o_get K 5 (ltDoors hb) (obDoors_c (ca := ca) hb _) rfl (by decide) i_X0 q59 rfl rfl hd kk
theorem gC_X9_124 {x : En} {E : Amd} {D : va_G} {ca : Nat → ClassId} {h : Nat → Nat} {nl : Nat} {cc : ByteArray} {nL fr lo : Nat} {M : Mem} {pc : Nat} {V : List (Option Value)} {rest : List Value} {b : Nat} (hb : b < 3) (K : Kx x E D (tysOf ca) h (LaC ca h nl) RX9 cc nL fr lo) (hd : decode cc pc = .ok (.getfield 124, 3)) (kk : Go x D (tysOf ca) h (LaC ca h nl) nL M (pc + 3) V (.ref (h (HB b + 11)) :: rest)) : Go x D (tysOf ca) h (LaC ca h nl) nL M (pc) V (.ref (h (HB b)) :: rest) := o_get K 2 (ltHall hb) (obHall_c (ca := ca) hb _) rfl (by decide) i_X1 q146 rfl rfl hd kk
theorem gC_X9_127 {x : En} {E : Amd} {D : va_G} {ca : Nat → ClassId} {h : Nat → Nat} {nl : Nat} {cc : ByteArray} {nL fr lo : Nat} {M : Mem} {pc : Nat} {V : List (Option Value)} {rest : List Value} {b : Nat} (hb : b < 3) (K : Kx x E D (tysOf ca) h (LaC ca h nl) RX9 cc nL fr lo) (hd : decode cc pc = .ok (.getfield 127, 3)) (kk : Go x D (tysOf ca) h (LaC ca h nl) nL M (pc + 3) V (.ref (h (HB b + 12)) :: rest)) : Go x D (tysOf ca) h (LaC ca h nl) nL M (pc) V (.ref (h (HB b)) :: rest) := o_get K 3 (ltHall hb) (obHall_c (ca := ca) hb _) rfl (by decide) i_X1 q149 rfl rfl hd kk
theorem gC_X9_130 {x : En} {E : Amd} {D : va_G} {ca : Nat → ClassId} {h : Nat → Nat} {nl : Nat} {cc : ByteArray} {nL fr lo : Nat} {M : Mem} {pc : Nat} {V : List (Option Value)} {rest : List Value} {b : Nat} (hb : b < 3) (K : Kx x E D (tysOf ca) h (LaC ca h nl) RX9 cc nL fr lo) (hd : decode cc pc = .ok (.getfield 130, 3)) (kk : Go x D (tysOf ca) h (LaC ca h nl) nL M (pc + 3) V (.ref (h (HB b + 13)) :: rest)) : Go x D (tysOf ca) h (LaC ca h nl) nL M (pc) V (.ref (h (HB b)) :: rest) := o_get K 4 (ltHall hb) (obHall_c (ca := ca) hb _) rfl (by decide) i_X1 q152 rfl rfl hd kk
theorem gC_X9_153 {x : En} {E : Amd} {D : va_G} {ca : Nat → ClassId} {h : Nat → Nat} {nl : Nat} {cc : ByteArray} {nL fr lo : Nat} {M : Mem} {pc : Nat} {V : List (Option Value)} {rest : List Value} {b : Nat} (hb : b < 3) (K : Kx x E D (tysOf ca) h (LaC ca h nl) RX9 cc nL fr lo) (hd : decode cc pc = .ok (.getfield 153, 3)) (kk : Go x D (tysOf ca) h (LaC ca h nl) nL M (pc + 3) V (.int (M (HB b) 8) :: rest)) : Go x D (tysOf ca) h (LaC ca h nl) nL M (pc) V (.ref (h (HB b)) :: rest) := o_get K 8 (ltHall hb) (obHall_c (ca := ca) hb _) rfl (by decide) i_X1 q161 rfl rfl hd kk
theorem gC_X9_173 {x : En} {E : Amd} {D : va_G} {ca : Nat → ClassId} {h : Nat → Nat} {nl : Nat} {cc : ByteArray} {nL fr lo : Nat} {M : Mem} {pc : Nat} {V : List (Option Value)} {rest : List Value} {b : Nat} (hb : b < 3) (K : Kx x E D (tysOf ca) h (LaC ca h nl) RX9 cc nL fr lo) (hd : decode cc pc = .ok (.getfield 173, 3)) (kk : Go x D (tysOf ca) h (LaC ca h nl) nL M (pc + 3) V (.int (M (HB b) 6) :: rest)) : Go x D (tysOf ca) h (LaC ca h nl) nL M (pc) V (.ref (h (HB b)) :: rest) := o_get K 6 (ltHall hb) (obHall_c (ca := ca) hb _) rfl (by decide) i_X1 q157 rfl rfl hd kk
theorem gC_X9_182 {x : En} {E : Amd} {D : va_G} {ca : Nat → ClassId} {h : Nat → Nat} {nl : Nat} {cc : ByteArray} {nL fr lo : Nat} {M : Mem} {pc : Nat} {V : List (Option Value)} {rest : List Value} {b : Nat} (hb : b < 3) (K : Kx x E D (tysOf ca) h (LaC ca h nl) RX9 cc nL fr lo) (hd : decode cc pc = .ok (.getfield 182, 3)) (kk : Go x D (tysOf ca) h (LaC ca h nl) nL M (pc + 3) V (.int (M (HB b) 5) :: rest)) : Go x D (tysOf ca) h (LaC ca h nl) nL M (pc) V (.ref (h (HB b)) :: rest) := o_get K 5 (ltHall hb) (obHall_c (ca := ca) hb _) rfl (by decide) i_X1 q155 rfl rfl hd kk
theorem gC_X9_185 {x : En} {E : Amd} {D : va_G} {ca : Nat → ClassId} {h : Nat → Nat} {nl : Nat} {cc : ByteArray} {nL fr lo : Nat} {M : Mem} {pc : Nat} {V : List (Option Value)} {rest : List Value} {b : Nat} (hb : b < 3) (K : Kx x E D (tysOf ca) h (LaC ca h nl) RX9 cc nL fr lo) (hd : decode cc pc = .ok (.getfield 185, 3)) (kk : Go x D (tysOf ca) h (LaC ca h nl) nL M (pc + 3) V (.int (M (HB b + 1) 1) :: rest)) : Go x D (tysOf ca) h (LaC ca h nl) nL M (pc) V (.ref (h (HB b + 1)) :: rest) := o_get K 1 (ltDoors hb) (obDoors_c (ca := ca) hb _) rfl (by decide) i_X0 q48 rfl rfl hd kk
theorem gC_X9_229 {x : En} {E : Amd} {D : va_G} {ca : Nat → ClassId} {h : Nat → Nat} {nl : Nat} {cc : ByteArray} {nL fr lo : Nat} {M : Mem} {pc : Nat} {V : List (Option Value)} {rest : List Value} {b : Nat} (hb : b < 3) (K : Kx x E D (tysOf ca) h (LaC ca h nl) RX9 cc nL fr lo) (hd : decode cc pc = .ok (.getfield 229, 3)) (kk : Go x D (tysOf ca) h (LaC ca h nl) nL M (pc + 3) V (.ref (h (HB b + 6)) :: rest)) : Go x D (tysOf ca) h (LaC ca h nl) nL M (pc) V (.ref (h (HB b)) :: rest) := o_get K 1 (ltHall hb) (obHall_c (ca := ca) hb _) rfl (by decide) i_X1 q144 rfl rfl hd kk
theorem gC_X9_235 {x : En} {E : Amd} {D : va_G} {ca : Nat → ClassId} {h : Nat → Nat} {nl : Nat} {cc : ByteArray} {nL fr lo : Nat} {M : Mem} {pc : Nat} {V : List (Option Value)} {rest : List Value} {b : Nat} (hb : b < 3) (K : Kx x E D (tysOf ca) h (LaC ca h nl) RX9 cc nL fr lo) (hd : decode cc pc = .ok (.getfield 235, 3)) (kk : Go x D (tysOf ca) h (LaC ca h nl) nL M (pc + 3) V (.int (M (HB b) 7) :: rest)) : Go x D (tysOf ca) h (LaC ca h nl) nL M (pc) V (.ref (h (HB b)) :: rest) := o_get K 7 (ltHall hb) (obHall_c (ca := ca) hb _) rfl (by decide) i_X1 q159 rfl rfl hd kk
theorem gC_X9_241 {x : En} {E : Amd} {D : va_G} {ca : Nat → ClassId} {h : Nat → Nat} {nl : Nat} {cc : ByteArray} {nL fr lo : Nat} {M : Mem} {pc : Nat} {V : List (Option Value)} {rest : List Value} (K : Kx x E D (tysOf ca) h (LaC ca h nl) RX9 cc nL fr lo) (hd : decode cc pc = .ok (.getfield 241, 3)) (kk : Go x D (tysOf ca) h (LaC ca h nl) nL M (pc + 3) V (.int (M 0 5) :: rest)) : Go x D (tysOf ca) h (LaC ca h nl) nL M (pc) V (.ref (h 0) :: rest) := o_get K 5 (ltOne) (obOne_c (ca := ca) _) rfl (by decide) i_X9 q294 rfl rfl hd kk
theorem gC_X9_250 {x : En} {E : Amd} {D : va_G} {ca : Nat → ClassId} {h : Nat → Nat} {nl : Nat} {cc : ByteArray} {nL fr lo : Nat} {M : Mem} {pc : Nat} {V : List (Option Value)} {rest : List Value} {b : Nat} (hb : b < 3) (K : Kx x E D (tysOf ca) h (LaC ca h nl) RX9 cc nL fr lo) (hd : decode cc pc = .ok (.getfield 250, 3)) (kk : Go x D (tysOf ca) h (LaC ca h nl) nL M (pc + 3) V (.int (M (HB b + 6) 0) :: rest)) : Go x D (tysOf ca) h (LaC ca h nl) nL M (pc) V (.ref (h (HB b + 6)) :: rest) := o_get K 0 (ltLaws hb) (obLaws_c (ca := ca) hb _) rfl (by decide) i_X5 q120 rfl rfl hd kk
theorem gC_X9_262 {x : En} {E : Amd} {D : va_G} {ca : Nat → ClassId} {h : Nat → Nat} {nl : Nat} {cc : ByteArray} {nL fr lo : Nat} {M : Mem} {pc : Nat} {V : List (Option Value)} {rest : List Value} {c : Nat} (hc : 1 ≤ c ∧ c ≤ nl) (K : Kx x E D (tysOf ca) h (LaC ca h nl) RX9 cc nL fr lo) (hd : decode cc pc = .ok (.getfield 262, 3)) (kk : Go x D (tysOf ca) h (LaC ca h nl) nL M (pc + 3) V (.int (M (80 + 2 * c) 0) :: rest)) : Go x D (tysOf ca) h (LaC ca h nl) nL M (pc) V (.ref (h (80 + 2 * c)) :: rest) := o_get K 0 (ltLaw hc) (obLaw_c (ca := ca) hc _) rfl (by decide) i_X3 q859 rfl rfl hd kk
theorem gC_X9_267 {x : En} {E : Amd} {D : va_G} {ca : Nat → ClassId} {h : Nat → Nat} {nl : Nat} {cc : ByteArray} {nL fr lo : Nat} {M : Mem} {pc : Nat} {V : List (Option Value)} {rest : List Value} {c : Nat} (hc : 1 ≤ c ∧ c ≤ nl) (K : Kx x E D (tysOf ca) h (LaC ca h nl) RX9 cc nL fr lo) (hd : decode cc pc = .ok (.getfield 267, 3)) (kk : Go x D (tysOf ca) h (LaC ca h nl) nL M (pc + 3) V (.int (M (80 + 2 * c) 1) :: rest)) : Go x D (tysOf ca) h (LaC ca h nl) nL M (pc) V (.ref (h (80 + 2 * c)) :: rest) := o_get K 1 (ltLaw hc) (obLaw_c (ca := ca) hc _) rfl (by decide) i_X3 q861 rfl rfl hd kk
theorem gC_X9_270 {x : En} {E : Amd} {D : va_G} {ca : Nat → ClassId} {h : Nat → Nat} {nl : Nat} {cc : ByteArray} {nL fr lo : Nat} {M : Mem} {pc : Nat} {V : List (Option Value)} {rest : List Value} {b : Nat} (hb : b < 3) (K : Kx x E D (tysOf ca) h (LaC ca h nl) RX9 cc nL fr lo) (hd : decode cc pc = .ok (.getfield 270, 3)) (kk : Go x D (tysOf ca) h (LaC ca h nl) nL M (pc + 3) V (.ref (h (HB b + 7)) :: rest)) : Go x D (tysOf ca) h (LaC ca h nl) nL M (pc) V (.ref (h (HB b + 6)) :: rest) := o_get K 1 (ltLaws hb) (obLaws_c (ca := ca) hb _) rfl (by decide) i_X5 q122 rfl rfl hd kk
theorem gC_X9_280 {x : En} {E : Amd} {D : va_G} {ca : Nat → ClassId} {h : Nat → Nat} {nl : Nat} {cc : ByteArray} {nL fr lo : Nat} {M : Mem} {pc : Nat} {V : List (Option Value)} {rest : List Value} {s : Nat} (hs : ShOK ca h s) (K : Kx x E D (tysOf ca) h (LaC ca h nl) RX9 cc nL fr lo) (hd : decode cc pc = .ok (.getfield 280, 3)) (kk : Go x D (tysOf ca) h (LaC ca h nl) nL M (pc + 3) V (.int (M s 0) :: rest)) : Go x D (tysOf ca) h (LaC ca h nl) nL M (pc) V (.ref (h s) :: rest) := o_get K 0 (ltSheet hs) (obSheet_c (ca := ca) hs _) rfl (by decide) i_X6 q251 rfl rfl hd kk
theorem gC_X9_283 {x : En} {E : Amd} {D : va_G} {ca : Nat → ClassId} {h : Nat → Nat} {nl : Nat} {cc : ByteArray} {nL fr lo : Nat} {M : Mem} {pc : Nat} {V : List (Option Value)} {rest : List Value} {s : Nat} (hs : ShOK ca h s) (K : Kx x E D (tysOf ca) h (LaC ca h nl) RX9 cc nL fr lo) (hd : decode cc pc = .ok (.getfield 283, 3)) (kk : Go x D (tysOf ca) h (LaC ca h nl) nL M (pc + 3) V (.ref (h (s + 1)) :: rest)) : Go x D (tysOf ca) h (LaC ca h nl) nL M (pc) V (.ref (h s) :: rest) := o_get K 2 (ltSheet hs) (obSheet_c (ca := ca) hs _) rfl (by decide) i_X6 q256 rfl rfl hd kk
theorem gC_X9_295 {x : En} {E : Amd} {D : va_G} {ca : Nat → ClassId} {h : Nat → Nat} {nl : Nat} {cc : ByteArray} {nL fr lo : Nat} {M : Mem} {pc : Nat} {V : List (Option Value)} {rest : List Value} {s : Nat} (hs : ShOK ca h s) (K : Kx x E D (tysOf ca) h (LaC ca h nl) RX9 cc nL fr lo) (hd : decode cc pc = .ok (.getfield 295, 3)) (kk : Go x D (tysOf ca) h (LaC ca h nl) nL M (pc + 3) V (.int (M s 1) :: rest)) : Go x D (tysOf ca) h (LaC ca h nl) nL M (pc) V (.ref (h s) :: rest) := o_get K 1 (ltSheet hs) (obSheet_c (ca := ca) hs _) rfl (by decide) i_X6 q253 rfl rfl hd kk
theorem gC_X9_311 {x : En} {E : Amd} {D : va_G} {ca : Nat → ClassId} {h : Nat → Nat} {nl : Nat} {cc : ByteArray} {nL fr lo : Nat} {M : Mem} {pc : Nat} {V : List (Option Value)} {rest : List Value} {i : Nat} (hi : i < 5) (K : Kx x E D (tysOf ca) h (LaC ca h nl) RX9 cc nL fr lo) (hd : decode cc pc = .ok (.getfield 311, 3)) (kk : Go x D (tysOf ca) h (LaC ca h nl) nL M (pc + 3) V (.int (M (66 + 3 * i) 0) :: rest)) : Go x D (tysOf ca) h (LaC ca h nl) nL M (pc) V (.ref (h (66 + 3 * i)) :: rest) := o_get K 0 (ltSlot hi) (obSlot_c (ca := ca) hi _) rfl (by decide) i_X7 q272 rfl rfl hd kk
theorem gC_X9_314 {x : En} {E : Amd} {D : va_G} {ca : Nat → ClassId} {h : Nat → Nat} {nl : Nat} {cc : ByteArray} {nL fr lo : Nat} {M : Mem} {pc : Nat} {V : List (Option Value)} {rest : List Value} {i : Nat} (hi : i < 5) (K : Kx x E D (tysOf ca) h (LaC ca h nl) RX9 cc nL fr lo) (hd : decode cc pc = .ok (.getfield 314, 3)) (kk : Go x D (tysOf ca) h (LaC ca h nl) nL M (pc + 3) V (.int (M (66 + 3 * i) 1) :: rest)) : Go x D (tysOf ca) h (LaC ca h nl) nL M (pc) V (.ref (h (66 + 3 * i)) :: rest) := o_get K 1 (ltSlot hi) (obSlot_c (ca := ca) hi _) rfl (by decide) i_X7 q273 rfl rfl hd kk
theorem gC_X9_316 {x : En} {E : Amd} {D : va_G} {ca : Nat → ClassId} {h : Nat → Nat} {nl : Nat} {cc : ByteArray} {nL fr lo : Nat} {M : Mem} {pc : Nat} {V : List (Option Value)} {rest : List Value} {i : Nat} (hi : i < 5) (K : Kx x E D (tysOf ca) h (LaC ca h nl) RX9 cc nL fr lo) (hd : decode cc pc = .ok (.getfield 316, 3)) (kk : Go x D (tysOf ca) h (LaC ca h nl) nL M (pc + 3) V (.int (M (66 + 3 * i) 2) :: rest)) : Go x D (tysOf ca) h (LaC ca h nl) nL M (pc) V (.ref (h (66 + 3 * i)) :: rest) := o_get K 2 (ltSlot hi) (obSlot_c (ca := ca) hi _) rfl (by decide) i_X7 q274 rfl rfl hd kk
theorem gC_X9_318 {x : En} {E : Amd} {D : va_G} {ca : Nat → ClassId} {h : Nat → Nat} {nl : Nat} {cc : ByteArray} {nL fr lo : Nat} {M : Mem} {pc : Nat} {V : List (Option Value)} {rest : List Value} {i : Nat} (hi : i < 5) (K : Kx x E D (tysOf ca) h (LaC ca h nl) RX9 cc nL fr lo) (hd : decode cc pc = .ok (.getfield 318, 3)) (kk : Go x D (tysOf ca) h (LaC ca h nl) nL M (pc + 3) V (.ref (h (67 + 3 * i)) :: rest)) : Go x D (tysOf ca) h (LaC ca h nl) nL M (pc) V (.ref (h (66 + 3 * i)) :: rest) := o_get K 4 (ltSlot hi) (obSlot_c (ca := ca) hi _) rfl (by decide) i_X7 q277 rfl rfl hd kk
theorem gC_X9_326 {x : En} {E : Amd} {D : va_G} {ca : Nat → ClassId} {h : Nat → Nat} {nl : Nat} {cc : ByteArray} {nL fr lo : Nat} {M : Mem} {pc : Nat} {V : List (Option Value)} {rest : List Value} {i : Nat} (hi : i < 5) (K : Kx x E D (tysOf ca) h (LaC ca h nl) RX9 cc nL fr lo) (hd : decode cc pc = .ok (.getfield 326, 3)) (kk : Go x D (tysOf ca) h (LaC ca h nl) nL M (pc + 3) V (.int (M (66 + 3 * i) 3) :: rest)) : Go x D (tysOf ca) h (LaC ca h nl) nL M (pc) V (.ref (h (66 + 3 * i)) :: rest) := o_get K 3 (ltSlot hi) (obSlot_c (ca := ca) hi _) rfl (by decide) i_X7 q275 rfl rfl hd kk
theorem gC_X9_330 {x : En} {E : Amd} {D : va_G} {ca : Nat → ClassId} {h : Nat → Nat} {nl : Nat} {cc : ByteArray} {nL fr lo : Nat} {M : Mem} {pc : Nat} {V : List (Option Value)} {rest : List Value} (K : Kx x E D (tysOf ca) h (LaC ca h nl) RX9 cc nL fr lo) (hd : decode cc pc = .ok (.getfield 330, 3)) (kk : Go x D (tysOf ca) h (LaC ca h nl) nL M (pc + 3) V (.int (M 0 10) :: rest)) : Go x D (tysOf ca) h (LaC ca h nl) nL M (pc) V (.ref (h 0) :: rest) := o_get K 10 (ltOne) (obOne_c (ca := ca) _) rfl (by decide) i_X9 q299 rfl rfl hd kk
theorem gC_X9_333 {x : En} {E : Amd} {D : va_G} {ca : Nat → ClassId} {h : Nat → Nat} {nl : Nat} {cc : ByteArray} {nL fr lo : Nat} {M : Mem} {pc : Nat} {V : List (Option Value)} {rest : List Value} (K : Kx x E D (tysOf ca) h (LaC ca h nl) RX9 cc nL fr lo) (hd : decode cc pc = .ok (.getfield 333, 3)) (kk : Go x D (tysOf ca) h (LaC ca h nl) nL M (pc + 3) V (.int (M 0 2) :: rest)) : Go x D (tysOf ca) h (LaC ca h nl) nL M (pc) V (.ref (h 0) :: rest) := o_get K 2 (ltOne) (obOne_c (ca := ca) _) rfl (by decide) i_X9 q291 rfl rfl hd kk
theorem pC_X0_22 {x : En} {E : Amd} {D : va_G} {ca : Nat → ClassId} {h : Nat → Nat} {nl : Nat} {cc : ByteArray} {nL fr lo : Nat} {M : Mem} {pc : Nat} {V : List (Option Value)} {rest : List Value} {b : Nat} (hb : b < 3) (K : Kx x E D (tysOf ca) h (LaC ca h nl) RX0 cc nL fr lo) {v : Int32} (hd : decode cc pc = .ok (.putfield 22, 3)) (kk : Go x D (tysOf ca) h (LaC ca h nl) nL (sto M (HB b + 1) 0 v) (pc + 3) V (rest)) : Go x D (tysOf ca) h (LaC ca h nl) nL M (pc) V (.int v :: .ref (h (HB b + 1)) :: rest) := o_put K (ty := .int) tyX0 0 (upd (M (HB b + 1)) 0 v) (ltDoors hb) (obDoors_c (ca := ca) hb _) rfl (by decide) i_X0 tyX0_ok nmX0 q41 rfl rfl (by decide +kernel) rfl rfl (Nat.le_of_ble_eq_true rfl) (obDoors_c (ca := ca) hb _) hd kk
theorem pC_X0_26 {x : En} {E : Amd} {D : va_G} {ca : Nat → ClassId} {h : Nat → Nat} {nl : Nat} {cc : ByteArray} {nL fr lo : Nat} {M : Mem} {pc : Nat} {V : List (Option Value)} {rest : List Value} {b : Nat} (hb : b < 3) (K : Kx x E D (tysOf ca) h (LaC ca h nl) RX0 cc nL fr lo) {v : Int32} (hd : decode cc pc = .ok (.putfield 26, 3)) (kk : Go x D (tysOf ca) h (LaC ca h nl) nL (sto M (HB b + 1) 1 v) (pc + 3) V (rest)) : Go x D (tysOf ca) h (LaC ca h nl) nL M (pc) V (.int v :: .ref (h (HB b + 1)) :: rest) := o_put K (ty := .int) tyX0 1 (upd (M (HB b + 1)) 1 v) (ltDoors hb) (obDoors_c (ca := ca) hb _) rfl (by decide) i_X0 tyX0_ok nmX0 q45 rfl rfl (by decide +kernel) rfl rfl (Nat.le_of_ble_eq_true rfl) (obDoors_c (ca := ca) hb _) hd kk
theorem pC_X1_35 {x : En} {E : Amd} {D : va_G} {ca : Nat → ClassId} {h : Nat → Nat} {nl : Nat} {cc : ByteArray} {nL fr lo : Nat} {M : Mem} {pc : Nat} {V : List (Option Value)} {rest : List Value} {b : Nat} (hb : b < 3) (K : Kx x E D (tysOf ca) h (LaC ca h nl) RX1 cc nL fr lo) {v : Int32} (hd : decode cc pc = .ok (.putfield 35, 3)) (kk : Go x D (tysOf ca) h (LaC ca h nl) nL (sto M (HB b) 8 v) (pc + 3) V (rest)) : Go x D (tysOf ca) h (LaC ca h nl) nL M (pc) V (.int v :: .ref (h (HB b)) :: rest) := o_put K (ty := .int) tyX1 8 (upd (M (HB b)) 8 v) (ltHall hb) (obHall_c (ca := ca) hb _) rfl (by decide) i_X1 tyX1_ok nmX1 q160 rfl rfl (by decide +kernel) rfl rfl (Nat.le_of_ble_eq_true rfl) (obHall_c (ca := ca) hb _) hd kk
theorem pC_X1_71 {x : En} {E : Amd} {D : va_G} {ca : Nat → ClassId} {h : Nat → Nat} {nl : Nat} {cc : ByteArray} {nL fr lo : Nat} {M : Mem} {pc : Nat} {V : List (Option Value)} {rest : List Value} {b : Nat} (hb : b < 3) (K : Kx x E D (tysOf ca) h (LaC ca h nl) RX1 cc nL fr lo) {v : Int32} (hd : decode cc pc = .ok (.putfield 71, 3)) (kk : Go x D (tysOf ca) h (LaC ca h nl) nL (sto M (HB b) 5 v) (pc + 3) V (rest)) : Go x D (tysOf ca) h (LaC ca h nl) nL M (pc) V (.int v :: .ref (h (HB b)) :: rest) := o_put K (ty := .int) tyX1 5 (upd (M (HB b)) 5 v) (ltHall hb) (obHall_c (ca := ca) hb _) rfl (by decide) i_X1 tyX1_ok nmX1 q153 rfl rfl (by decide +kernel) rfl rfl (Nat.le_of_ble_eq_true rfl) (obHall_c (ca := ca) hb _) hd kk
theorem pC_X1_74 {x : En} {E : Amd} {D : va_G} {ca : Nat → ClassId} {h : Nat → Nat} {nl : Nat} {cc : ByteArray} {nL fr lo : Nat} {M : Mem} {pc : Nat} {V : List (Option Value)} {rest : List Value} {b : Nat} (hb : b < 3) (K : Kx x E D (tysOf ca) h (LaC ca h nl) RX1 cc nL fr lo) {v : Int32} (hd : decode cc pc = .ok (.putfield 74, 3)) (kk : Go x D (tysOf ca) h (LaC ca h nl) nL (sto M (HB b) 6 v) (pc + 3) V (rest)) : Go x D (tysOf ca) h (LaC ca h nl) nL M (pc) V (.int v :: .ref (h (HB b)) :: rest) := o_put K (ty := .int) tyX1 6 (upd (M (HB b)) 6 v) (ltHall hb) (obHall_c (ca := ca) hb _) rfl (by decide) i_X1 tyX1_ok nmX1 q156 rfl rfl (by decide +kernel) rfl rfl (Nat.le_of_ble_eq_true rfl) (obHall_c (ca := ca) hb _) hd kk
theorem pC_X1_77 {x : En} {E : Amd} {D : va_G} {ca : Nat → ClassId} {h : Nat → Nat} {nl : Nat} {cc : ByteArray} {nL fr lo : Nat} {M : Mem} {pc : Nat} {V : List (Option Value)} {rest : List Value} {b : Nat} (hb : b < 3) (K : Kx x E D (tysOf ca) h (LaC ca h nl) RX1 cc nL fr lo) {v : Int32} (hd : decode cc pc = .ok (.putfield 77, 3)) (kk : Go x D (tysOf ca) h (LaC ca h nl) nL (sto M (HB b) 7 v) (pc + 3) V (rest)) : Go x D (tysOf ca) h (LaC ca h nl) nL M (pc) V (.int v :: .ref (h (HB b)) :: rest) := o_put K (ty := .int) tyX1 7 (upd (M (HB b)) 7 v) (ltHall hb) (obHall_c (ca := ca) hb _) rfl (by decide) i_X1 tyX1_ok nmX1 q158 rfl rfl (by decide +kernel) rfl rfl (Nat.le_of_ble_eq_true rfl) (obHall_c (ca := ca) hb _) hd kk
theorem pC_X4_19 {x : En} {E : Amd} {D : va_G} {ca : Nat → ClassId} {h : Nat → Nat} {nl : Nat} {cc : ByteArray} {nL fr lo : Nat} {M : Mem} {pc : Nat} {V : List (Option Value)} {rest : List Value} (K : Kx x E D (tysOf ca) h (LaC ca h nl) RX4 cc nL fr lo) {v : Int32} (hd : decode cc pc = .ok (.putfield 19, 3)) (kk : Go x D (tysOf ca) h (LaC ca h nl) nL (sto M 54 1 v) (pc + 3) V (rest)) : Go x D (tysOf ca) h (LaC ca h nl) nL M (pc) V (.int v :: .ref (h 54) :: rest) := o_put K (ty := .int) tyX4 1 (upd (M 54) 1 v) (ltReader) (obReader_c (ca := ca) _) rfl (by decide) i_X4 tyX4_ok nmX4 q210 rfl rfl (by decide +kernel) rfl rfl (Nat.le_of_ble_eq_true rfl) (obReader_c (ca := ca) _) hd kk
theorem pC_X4_23 {x : En} {E : Amd} {D : va_G} {ca : Nat → ClassId} {h : Nat → Nat} {nl : Nat} {cc : ByteArray} {nL fr lo : Nat} {M : Mem} {pc : Nat} {V : List (Option Value)} {rest : List Value} (K : Kx x E D (tysOf ca) h (LaC ca h nl) RX4 cc nL fr lo) {v : Int32} (hd : decode cc pc = .ok (.putfield 23, 3)) (kk : Go x D (tysOf ca) h (LaC ca h nl) nL (sto M 54 3 v) (pc + 3) V (rest)) : Go x D (tysOf ca) h (LaC ca h nl) nL M (pc) V (.int v :: .ref (h 54) :: rest) := o_put K (ty := .int) tyX4 3 (upd (M 54) 3 v) (ltReader) (obReader_c (ca := ca) _) rfl (by decide) i_X4 tyX4_ok nmX4 q212 rfl rfl (by decide +kernel) rfl rfl (Nat.le_of_ble_eq_true rfl) (obReader_c (ca := ca) _) hd kk
theorem pC_X4_26 {x : En} {E : Amd} {D : va_G} {ca : Nat → ClassId} {h : Nat → Nat} {nl : Nat} {cc : ByteArray} {nL fr lo : Nat} {M : Mem} {pc : Nat} {V : List (Option Value)} {rest : List Value} (K : Kx x E D (tysOf ca) h (LaC ca h nl) RX4 cc nL fr lo) {v : Int32} (hd : decode cc pc = .ok (.putfield 26, 3)) (kk : Go x D (tysOf ca) h (LaC ca h nl) nL (sto M 54 4 v) (pc + 3) V (rest)) : Go x D (tysOf ca) h (LaC ca h nl) nL M (pc) V (.int v :: .ref (h 54) :: rest) := o_put K (ty := .int) tyX4 4 (upd (M 54) 4 v) (ltReader) (obReader_c (ca := ca) _) rfl (by decide) i_X4 tyX4_ok nmX4 q213 rfl rfl (by decide +kernel) rfl rfl (Nat.le_of_ble_eq_true rfl) (obReader_c (ca := ca) _) hd kk
theorem pC_X4_29 {x : En} {E : Amd} {D : va_G} {ca : Nat → ClassId} {h : Nat → Nat} {nl : Nat} {cc : ByteArray} {nL fr lo : Nat} {M : Mem} {pc : Nat} {V : List (Option Value)} {rest : List Value} (K : Kx x E D (tysOf ca) h (LaC ca h nl) RX4 cc nL fr lo) {v : Int32} (hd : decode cc pc = .ok (.putfield 29, 3)) (kk : Go x D (tysOf ca) h (LaC ca h nl) nL (sto M 54 6 v) (pc + 3) V (rest)) : Go x D (tysOf ca) h (LaC ca h nl) nL M (pc) V (.int v :: .ref (h 54) :: rest) := o_put K (ty := .int) tyX4 6 (upd (M 54) 6 v) (ltReader) (obReader_c (ca := ca) _) rfl (by decide) i_X4 tyX4_ok nmX4 q215 rfl rfl (by decide +kernel) rfl rfl (Nat.le_of_ble_eq_true rfl) (obReader_c (ca := ca) _) hd kk
theorem pC_X4_32 {x : En} {E : Amd} {D : va_G} {ca : Nat → ClassId} {h : Nat → Nat} {nl : Nat} {cc : ByteArray} {nL fr lo : Nat} {M : Mem} {pc : Nat} {V : List (Option Value)} {rest : List Value} (K : Kx x E D (tysOf ca) h (LaC ca h nl) RX4 cc nL fr lo) {v : Int32} (hd : decode cc pc = .ok (.putfield 32, 3)) (kk : Go x D (tysOf ca) h (LaC ca h nl) nL (sto M 54 8 v) (pc + 3) V (rest)) : Go x D (tysOf ca) h (LaC ca h nl) nL M (pc) V (.int v :: .ref (h 54) :: rest) := o_put K (ty := .int) tyX4 8 (upd (M 54) 8 v) (ltReader) (obReader_c (ca := ca) _) rfl (by decide) i_X4 tyX4_ok nmX4 q217 rfl rfl (by decide +kernel) rfl rfl (Nat.le_of_ble_eq_true rfl) (obReader_c (ca := ca) _) hd kk
theorem pC_X4_36 {x : En} {E : Amd} {D : va_G} {ca : Nat → ClassId} {h : Nat → Nat} {nl : Nat} {cc : ByteArray} {nL fr lo : Nat} {M : Mem} {pc : Nat} {V : List (Option Value)} {rest : List Value} (K : Kx x E D (tysOf ca) h (LaC ca h nl) RX4 cc nL fr lo) {v : Int32} (hd : decode cc pc = .ok (.putfield 36, 3)) (kk : Go x D (tysOf ca) h (LaC ca h nl) nL (sto M 54 9 v) (pc + 3) V (rest)) : Go x D (tysOf ca) h (LaC ca h nl) nL M (pc) V (.int v :: .ref (h 54) :: rest) := o_put K (ty := .int) tyX4 9 (upd (M 54) 9 v) (ltReader) (obReader_c (ca := ca) _) rfl (by decide) i_X4 tyX4_ok nmX4 q218 rfl rfl (by decide +kernel) rfl rfl (Nat.le_of_ble_eq_true rfl) (obReader_c (ca := ca) _) hd kk
theorem pC_X4_49 {x : En} {E : Amd} {D : va_G} {ca : Nat → ClassId} {h : Nat → Nat} {nl : Nat} {cc : ByteArray} {nL fr lo : Nat} {M : Mem} {pc : Nat} {V : List (Option Value)} {rest : List Value} (K : Kx x E D (tysOf ca) h (LaC ca h nl) RX4 cc nL fr lo) {v : Int32} (hd : decode cc pc = .ok (.putfield 49, 3)) (kk : Go x D (tysOf ca) h (LaC ca h nl) nL (sto M 54 2 v) (pc + 3) V (rest)) : Go x D (tysOf ca) h (LaC ca h nl) nL M (pc) V (.int v :: .ref (h 54) :: rest) := o_put K (ty := .int) tyX4 2 (upd (M 54) 2 v) (ltReader) (obReader_c (ca := ca) _) rfl (by decide) i_X4 tyX4_ok nmX4 q211 rfl rfl (by decide +kernel) rfl rfl (Nat.le_of_ble_eq_true rfl) (obReader_c (ca := ca) _) hd kk
theorem pC_X4_54 {x : En} {E : Amd} {D : va_G} {ca : Nat → ClassId} {h : Nat → Nat} {nl : Nat} {cc : ByteArray} {nL fr lo : Nat} {M : Mem} {pc : Nat} {V : List (Option Value)} {rest : List Value} (K : Kx x E D (tysOf ca) h (LaC ca h nl) RX4 cc nL fr lo) {v : Int32} (hd : decode cc pc = .ok (.putfield 54, 3)) (kk : Go x D (tysOf ca) h (LaC ca h nl) nL (sto M 54 5 v) (pc + 3) V (rest)) : Go x D (tysOf ca) h (LaC ca h nl) nL M (pc) V (.int v :: .ref (h 54) :: rest) := o_put K (ty := .int) tyX4 5 (upd (M 54) 5 v) (ltReader) (obReader_c (ca := ca) _) rfl (by decide) i_X4 tyX4_ok nmX4 q214 rfl rfl (by decide +kernel) rfl rfl (Nat.le_of_ble_eq_true rfl) (obReader_c (ca := ca) _) hd kk
theorem pC_X5_35 {x : En} {E : Amd} {D : va_G} {ca : Nat → ClassId} {h : Nat → Nat} {nl : Nat} {cc : ByteArray} {nL fr lo : Nat} {M : Mem} {pc : Nat} {V : List (Option Value)} {rest : List Value} {b : Nat} (hb : b < 3) (K : Kx x E D (tysOf ca) h (LaC ca h nl) RX5 cc nL fr lo) {v : Int32} (hd : decode cc pc = .ok (.putfield 35, 3)) (kk : Go x D (tysOf ca) h (LaC ca h nl) nL (sto M (HB b + 6) 0 v) (pc + 3) V (rest)) : Go x D (tysOf ca) h (LaC ca h nl) nL M (pc) V (.int v :: .ref (h (HB b + 6)) :: rest) := o_put K (ty := .int) tyX5 0 (upd (M (HB b + 6)) 0 v) (ltLaws hb) (obLaws_c (ca := ca) hb _) rfl (by decide) i_X5 tyX5_ok nmX5 q119 rfl rfl (by decide +kernel) rfl rfl (Nat.le_of_ble_eq_true rfl) (obLaws_c (ca := ca) hb _) hd kk
theorem pC_X6_11 {x : En} {E : Amd} {D : va_G} {ca : Nat → ClassId} {h : Nat → Nat} {nl : Nat} {cc : ByteArray} {nL fr lo : Nat} {M : Mem} {pc : Nat} {V : List (Option Value)} {rest : List Value} {s : Nat} (hs : ShOK ca h s) (K : Kx x E D (tysOf ca) h (LaC ca h nl) RX6 cc nL fr lo) {v : Int32} (hd : decode cc pc = .ok (.putfield 11, 3)) (kk : Go x D (tysOf ca) h (LaC ca h nl) nL (sto M s 0 v) (pc + 3) V (rest)) : Go x D (tysOf ca) h (LaC ca h nl) nL M (pc) V (.int v :: .ref (h s) :: rest) := o_put K (ty := .int) tyX6 0 (upd (M s) 0 v) (ltSheet hs) (obSheet_c (ca := ca) hs _) rfl (by decide) i_X6 tyX6_ok nmX6 q250 rfl rfl (by decide +kernel) rfl rfl (Nat.le_of_ble_eq_true rfl) (obSheet_c (ca := ca) hs _) hd kk
theorem pC_X6_19 {x : En} {E : Amd} {D : va_G} {ca : Nat → ClassId} {h : Nat → Nat} {nl : Nat} {cc : ByteArray} {nL fr lo : Nat} {M : Mem} {pc : Nat} {V : List (Option Value)} {rest : List Value} {s : Nat} (hs : ShOK ca h s) (K : Kx x E D (tysOf ca) h (LaC ca h nl) RX6 cc nL fr lo) {v : Int32} (hd : decode cc pc = .ok (.putfield 19, 3)) (kk : Go x D (tysOf ca) h (LaC ca h nl) nL (sto M s 1 v) (pc + 3) V (rest)) : Go x D (tysOf ca) h (LaC ca h nl) nL M (pc) V (.int v :: .ref (h s) :: rest) := o_put K (ty := .int) tyX6 1 (upd (M s) 1 v) (ltSheet hs) (obSheet_c (ca := ca) hs _) rfl (by decide) i_X6 tyX6_ok nmX6 q252 rfl rfl (by decide +kernel) rfl rfl (Nat.le_of_ble_eq_true rfl) (obSheet_c (ca := ca) hs _) hd kk
theorem pC_X8_40 {x : En} {E : Amd} {D : va_G} {ca : Nat → ClassId} {h : Nat → Nat} {nl : Nat} {cc : ByteArray} {nL fr lo : Nat} {M : Mem} {pc : Nat} {V : List (Option Value)} {rest : List Value} {b : Nat} (hb : b < 3) (K : Kx x E D (tysOf ca) h (LaC ca h nl) RX8 cc nL fr lo) {v : Int32} (hd : decode cc pc = .ok (.putfield 40, 3)) (kk : Go x D (tysOf ca) h (LaC ca h nl) nL (sto M (HB b + 1) 1 v) (pc + 3) V (rest)) : Go x D (tysOf ca) h (LaC ca h nl) nL M (pc) V (.int v :: .ref (h (HB b + 1)) :: rest) := o_put K (ty := .int) tyX0 1 (upd (M (HB b + 1)) 1 v) (ltDoors hb) (obDoors_c (ca := ca) hb _) rfl (by decide) i_X0 tyX0_ok nmX0 q46 rfl rfl (by decide +kernel) rfl rfl (Nat.le_of_ble_eq_true rfl) (obDoors_c (ca := ca) hb _) hd kk
theorem pC_X9_153 {x : En} {E : Amd} {D : va_G} {ca : Nat → ClassId} {h : Nat → Nat} {nl : Nat} {cc : ByteArray} {nL fr lo : Nat} {M : Mem} {pc : Nat} {V : List (Option Value)} {rest : List Value} {b : Nat} (hb : b < 3) (K : Kx x E D (tysOf ca) h (LaC ca h nl) RX9 cc nL fr lo) {v : Int32} (hd : decode cc pc = .ok (.putfield 153, 3)) (kk : Go x D (tysOf ca) h (LaC ca h nl) nL (sto M (HB b) 8 v) (pc + 3) V (rest)) : Go x D (tysOf ca) h (LaC ca h nl) nL M (pc) V (.int v :: .ref (h (HB b)) :: rest) := o_put K (ty := .int) tyX1 8 (upd (M (HB b)) 8 v) (ltHall hb) (obHall_c (ca := ca) hb _) rfl (by decide) i_X1 tyX1_ok nmX1 q161 rfl rfl (by decide +kernel) rfl rfl (Nat.le_of_ble_eq_true rfl) (obHall_c (ca := ca) hb _) hd kk
theorem pC_X9_241 {x : En} {E : Amd} {D : va_G} {ca : Nat → ClassId} {h : Nat → Nat} {nl : Nat} {cc : ByteArray} {nL fr lo : Nat} {M : Mem} {pc : Nat} {V : List (Option Value)} {rest : List Value} (K : Kx x E D (tysOf ca) h (LaC ca h nl) RX9 cc nL fr lo) {v : Int32} (hd : decode cc pc = .ok (.putfield 241, 3)) (kk : Go x D (tysOf ca) h (LaC ca h nl) nL (sto M 0 5 v) (pc + 3) V (rest)) : Go x D (tysOf ca) h (LaC ca h nl) nL M (pc) V (.int v :: .ref (h 0) :: rest) := o_put K (ty := .int) tyX9 5 (upd (M 0) 5 v) (ltOne) (obOne_c (ca := ca) _) rfl (by decide) i_X9 tyX9_ok nmX9 q294 rfl rfl (by decide +kernel) rfl rfl (Nat.le_of_ble_eq_true rfl) (obOne_c (ca := ca) _) hd kk
theorem pC_X9_311 {x : En} {E : Amd} {D : va_G} {ca : Nat → ClassId} {h : Nat → Nat} {nl : Nat} {cc : ByteArray} {nL fr lo : Nat} {M : Mem} {pc : Nat} {V : List (Option Value)} {rest : List Value} {i : Nat} (hi : i < 5) (K : Kx x E D (tysOf ca) h (LaC ca h nl) RX9 cc nL fr lo) {v : Int32} (hd : decode cc pc = .ok (.putfield 311, 3)) (kk : Go x D (tysOf ca) h (LaC ca h nl) nL (sto M (66 + 3 * i) 0 v) (pc + 3) V (rest)) : Go x D (tysOf ca) h (LaC ca h nl) nL M (pc) V (.int v :: .ref (h (66 + 3 * i)) :: rest) := o_put K (ty := .int) tyX7 0 (upd (M (66 + 3 * i)) 0 v) (ltSlot hi) (obSlot_c (ca := ca) hi _) rfl (by decide) i_X7 tyX7_ok nmX7 q272 rfl rfl (by decide +kernel) rfl rfl (Nat.le_of_ble_eq_true rfl) (obSlot_c (ca := ca) hi _) hd kk
theorem pC_X9_314 {x : En} {E : Amd} {D : va_G} {ca : Nat → ClassId} {h : Nat → Nat} {nl : Nat} {cc : ByteArray} {nL fr lo : Nat} {M : Mem} {pc : Nat} {V : List (Option Value)} {rest : List Value} {i : Nat} (hi : i < 5) (K : Kx x E D (tysOf ca) h (LaC ca h nl) RX9 cc nL fr lo) {v : Int32} (hd : decode cc pc = .ok (.putfield 314, 3)) (kk : Go x D (tysOf ca) h (LaC ca h nl) nL (sto M (66 + 3 * i) 1 v) (pc + 3) V (rest)) : Go x D (tysOf ca) h (LaC ca h nl) nL M (pc) V (.int v :: .ref (h (66 + 3 * i)) :: rest) := o_put K (ty := .int) tyX7 1 (upd (M (66 + 3 * i)) 1 v) (ltSlot hi) (obSlot_c (ca := ca) hi _) rfl (by decide) i_X7 tyX7_ok nmX7 q273 rfl rfl (by decide +kernel) rfl rfl (Nat.le_of_ble_eq_true rfl) (obSlot_c (ca := ca) hi _) hd kk
theorem pC_X9_316 {x : En} {E : Amd} {D : va_G} {ca : Nat → ClassId} {h : Nat → Nat} {nl : Nat} {cc : ByteArray} {nL fr lo : Nat} {M : Mem} {pc : Nat} {V : List (Option Value)} {rest : List Value} {i : Nat} (hi : i < 5) (K : Kx x E D (tysOf ca) h (LaC ca h nl) RX9 cc nL fr lo) {v : Int32} (hd : decode cc pc = .ok (.putfield 316, 3)) (kk : Go x D (tysOf ca) h (LaC ca h nl) nL (sto M (66 + 3 * i) 2 v) (pc + 3) V (rest)) : Go x D (tysOf ca) h (LaC ca h nl) nL M (pc) V (.int v :: .ref (h (66 + 3 * i)) :: rest) := o_put K (ty := .int) tyX7 2 (upd (M (66 + 3 * i)) 2 v) (ltSlot hi) (obSlot_c (ca := ca) hi _) rfl (by decide) i_X7 tyX7_ok nmX7 q274 rfl rfl (by decide +kernel) rfl rfl (Nat.le_of_ble_eq_true rfl) (obSlot_c (ca := ca) hi _) hd kk
theorem pC_X9_326 {x : En} {E : Amd} {D : va_G} {ca : Nat → ClassId} {h : Nat → Nat} {nl : Nat} {cc : ByteArray} {nL fr lo : Nat} {M : Mem} {pc : Nat} {V : List (Option Value)} {rest : List Value} {i : Nat} (hi : i < 5) (K : Kx x E D (tysOf ca) h (LaC ca h nl) RX9 cc nL fr lo) {v : Int32} (hd : decode cc pc = .ok (.putfield 326, 3)) (kk : Go x D (tysOf ca) h (LaC ca h nl) nL (sto M (66 + 3 * i) 3 v) (pc + 3) V (rest)) : Go x D (tysOf ca) h (LaC ca h nl) nL M (pc) V (.int v :: .ref (h (66 + 3 * i)) :: rest) := o_put K (ty := .int) tyX7 3 (upd (M (66 + 3 * i)) 3 v) (ltSlot hi) (obSlot_c (ca := ca) hi _) rfl (by decide) i_X7 tyX7_ok nmX7 q275 rfl rfl (by decide +kernel) rfl rfl (Nat.le_of_ble_eq_true rfl) (obSlot_c (ca := ca) hi _) hd kk
theorem pC_X9_330 {x : En} {E : Amd} {D : va_G} {ca : Nat → ClassId} {h : Nat → Nat} {nl : Nat} {cc : ByteArray} {nL fr lo : Nat} {M : Mem} {pc : Nat} {V : List (Option Value)} {rest : List Value} (K : Kx x E D (tysOf ca) h (LaC ca h nl) RX9 cc nL fr lo) {v : Int32} (hd : decode cc pc = .ok (.putfield 330, 3)) (kk : Go x D (tysOf ca) h (LaC ca h nl) nL (sto M 0 10 v) (pc + 3) V (rest)) : Go x D (tysOf ca) h (LaC ca h nl) nL M (pc) V (.int v :: .ref (h 0) :: rest) := o_put K (ty := .int) tyX9 10 (upd (M 0) 10 v) (ltOne) (obOne_c (ca := ca) _) rfl (by decide) i_X9 tyX9_ok nmX9 q299 rfl rfl (by decide +kernel) rfl rfl (Nat.le_of_ble_eq_true rfl) (obOne_c (ca := ca) _) hd kk
theorem pC_X9_333 {x : En} {E : Amd} {D : va_G} {ca : Nat → ClassId} {h : Nat → Nat} {nl : Nat} {cc : ByteArray} {nL fr lo : Nat} {M : Mem} {pc : Nat} {V : List (Option Value)} {rest : List Value} (K : Kx x E D (tysOf ca) h (LaC ca h nl) RX9 cc nL fr lo) {v : Int32} (hn : narrow .boolean (.int v) = .int v) (hfit : fits .boolean (.int v) = true) (hd : decode cc pc = .ok (.putfield 333, 3)) (kk : Go x D (tysOf ca) h (LaC ca h nl) nL (sto M 0 2 v) (pc + 3) V (rest)) : Go x D (tysOf ca) h (LaC ca h nl) nL M (pc) V (.int v :: .ref (h 0) :: rest) := o_put K (ty := .boolean) tyX9 2 (upd (M 0) 2 v) (ltOne) (obOne_c (ca := ca) _) rfl (by decide) i_X9 tyX9_ok nmX9 q291 rfl rfl (by decide +kernel) hn hfit (Nat.le_of_ble_eq_true rfl) (obOne_c (ca := ca) _) hd kk
theorem s_X9_57 : CsS RX9 57 yX2_isKind cX2_isKind 1 (some .boolean) 1 := ⟨q329, q7, q327, q328, by decide +kernel, by decide +kernel, by decide +kernel⟩
theorem s_X9_63 : CsS RX9 63 yX9_isRoom cX9_isRoom 1 (some .boolean) 1 := ⟨q333, q1, q331, q332, by decide +kernel, by decide +kernel, by decide +kernel⟩
theorem s_X9_66 : CsS RX9 66 yX9_isWithin cX9_isWithin 3 (some .boolean) 3 := ⟨q98, q1, q334, q97, by decide +kernel, by decide +kernel, by decide +kernel⟩
theorem s_X9_82 : CsV RX9 82 yX0_add cX0_add 6 (some .int) 4 := ⟨q340, q3, q337, q338, q339, by decide +kernel, by decide +kernel, by decide +kernel⟩
theorem s_X9_86 : CsV RX9 86 yX0_has cX0_has 2 (some .boolean) 1 := ⟨q348, q3, q345, q346, q347, by decide +kernel, by decide +kernel, by decide +kernel⟩
theorem s_X9_101 : CsV RX9 101 yX0_isOpen cX0_isOpen 2 (some .boolean) 1 := ⟨q353, q3, q350, q351, q352, by decide +kernel, by decide +kernel, by decide +kernel⟩
theorem s_X9_104 : CsV RX9 104 yX1_letsOf cX1_letsOf 2 (some .int) 1 := ⟨q357, q2, q354, q355, q356, by decide +kernel, by decide +kernel, by decide +kernel⟩
theorem s_X9_108 : CsV RX9 108 yX1_flowOf cX1_flowOf 2 (some .int) 1 := ⟨q365, q2, q362, q363, q364, by decide +kernel, by decide +kernel, by decide +kernel⟩
theorem s_X9_111 : CsS RX9 111 yX2_worthOf cX2_worthOf 4 (some .int) 2 := ⟨q369, q7, q367, q368, by decide +kernel, by decide +kernel, by decide +kernel⟩
theorem s_X9_115 : CsS RX9 115 yX2_isOf cX2_isOf 4 (some .boolean) 2 := ⟨q376, q7, q374, q375, by decide +kernel, by decide +kernel, by decide +kernel⟩
theorem s_X9_120 : CsV RX9 120 yX0_swing cX0_swing 3 none 2 := ⟨q391, q3, q388, q389, q390, by decide +kernel, by decide +kernel, by decide +kernel⟩
theorem s_X9_133 : CsV RX9 133 yX1_isLit cX1_isLit 2 (some .boolean) 1 := ⟨q399, q2, q396, q397, q398, by decide +kernel, by decide +kernel, by decide +kernel⟩
theorem s_X9_136 : CsV RX9 136 yX1_draughtOf cX1_draughtOf 2 (some .int) 1 := ⟨q403, q2, q400, q401, q402, by decide +kernel, by decide +kernel, by decide +kernel⟩
theorem s_X9_139 : CsS RX9 139 yX9_mostOf cX9_mostOf 1 (some .int) 1 := ⟨q418, q1, q416, q417, by decide +kernel, by decide +kernel, by decide +kernel⟩
theorem s_X9_142 : CsV RX9 142 yX1_light cX1_light 3 none 2 := ⟨q422, q2, q419, q420, q421, by decide +kernel, by decide +kernel, by decide +kernel⟩
theorem s_X9_150 : CsV RX9 150 yX1_drawDoor cX1_drawDoor 5 none 0 := ⟨q434, q2, q431, q432, q433, by decide +kernel, by decide +kernel, by decide +kernel⟩
theorem s_X9_156 : CsV RX9 156 yX1_litMany cX1_litMany 1 (some .int) 0 := ⟨q453, q2, q450, q451, q452, by decide +kernel, by decide +kernel, by decide +kernel⟩
theorem s_X9_160 : CsV RX9 160 yX1_minutesLeft cX1_minutesLeft 1 (some .int) 0 := ⟨q463, q2, q460, q461, q462, by decide +kernel, by decide +kernel, by decide +kernel⟩
theorem s_X9_163 : CsV RX9 163 yX1_passMinute cX1_passMinute 1 none 0 := ⟨q468, q2, q465, q466, q467, by decide +kernel, by decide +kernel, by decide +kernel⟩
theorem s_X9_166 : CsV RX9 166 yX0_openMany cX0_openMany 1 (some .int) 0 := ⟨q498, q3, q495, q496, q497, by decide +kernel, by decide +kernel, by decide +kernel⟩
theorem s_X9_169 : CsV RX9 169 yX1_goRound cX1_goRound 3 none 1 := ⟨q503, q2, q500, q501, q502, by decide +kernel, by decide +kernel, by decide +kernel⟩
theorem s_X9_176 : CsV RX9 176 yX1_airOfAll cX1_airOfAll 3 (some .int) 0 := ⟨q511, q2, q508, q509, q510, by decide +kernel, by decide +kernel, by decide +kernel⟩
theorem s_X9_179 : CsV RX9 179 yX1_scentOfAll cX1_scentOfAll 3 (some .int) 0 := ⟨q515, q2, q512, q513, q514, by decide +kernel, by decide +kernel, by decide +kernel⟩
theorem s_X9_188 : CsV RX9 188 yX8_behindMinutes cX8_behindMinutes 4 (some (.object "OneDraught$Hall")) 2 := ⟨q523, q9, q520, q521, q522, by decide +kernel, by decide +kernel, by decide +kernel⟩
theorem s_X9_192 : CsV RX9 192 yX8_minutesUntilStill cX8_minutesUntilStill 3 (some .int) 1 := ⟨q550, q9, q547, q548, q549, by decide +kernel, by decide +kernel, by decide +kernel⟩
theorem s_X9_196 : CsV RX9 196 yX8_fewestToShut cX8_fewestToShut 9 (some .int) 4 := ⟨q565, q9, q562, q563, q564, by decide +kernel, by decide +kernel, by decide +kernel⟩
theorem s_X9_200 : CsV RX9 200 yX8_roomsThatSmell cX8_roomsThatSmell 6 (some .int) 3 := ⟨q579, q9, q576, q577, q578, by decide +kernel, by decide +kernel, by decide +kernel⟩
theorem s_X9_204 : CsV RX9 204 yX8_litWith cX8_litWith 6 (some .int) 4 := ⟨q589, q9, q586, q587, q588, by decide +kernel, by decide +kernel, by decide +kernel⟩
theorem s_X9_208 : CsV RX9 208 yX8_allStayLit cX8_allStayLit 5 (some .boolean) 3 := ⟨q599, q9, q596, q597, q598, by decide +kernel, by decide +kernel, by decide +kernel⟩
theorem s_X9_213 : CsS RX9 213 yX9_isSheet cX9_isSheet 1 (some .boolean) 1 := ⟨q607, q1, q605, q606, by decide +kernel, by decide +kernel, by decide +kernel⟩
theorem s_X9_216 : CsV RX9 216 yX6_isMissing cX6_isMissing 1 (some .boolean) 0 := ⟨q611, q11, q608, q609, q610, by decide +kernel, by decide +kernel, by decide +kernel⟩
theorem s_X9_221 : CsV RX9 221 yX8_likeliestDoor cX8_likeliestDoor 8 (some .int) 3 := ⟨q616, q9, q613, q614, q615, by decide +kernel, by decide +kernel, by decide +kernel⟩
theorem s_X9_225 : CsV RX9 225 yX8_differenceWith cX8_differenceWith 7 (some .int) 4 := ⟨q620, q9, q633, q618, q619, by decide +kernel, by decide +kernel, by decide +kernel⟩
theorem s_X9_238 : CsV RX9 238 yX5_valueOf cX5_valueOf 6 (some .int) 4 := ⟨q91, q4, q638, q89, q90, by decide +kernel, by decide +kernel, by decide +kernel⟩
theorem s_X9_244 : CsV RX9 244 yX9_putBytes cX9_putBytes 3 none 1 := ⟨q646, q1, q643, q645, (TB_p 4 (by decide +kernel) (by decide +kernel)), by decide +kernel, by decide +kernel, by decide +kernel⟩
theorem s_X9_258 : CsV RX9 258 yX5_lawAt cX5_lawAt 2 (some (.object "OneDraught$Law")) 1 := ⟨q95, q4, q878, q93, q94, by decide +kernel, by decide +kernel, by decide +kernel⟩
theorem s_X9_273 : CsV RX9 273 yX6_become cX6_become 3 none 2 := ⟨q890, q11, q887, q888, q889, by decide +kernel, by decide +kernel, by decide +kernel⟩
theorem s_X9_278 : CsV RX9 278 yX6_has cX6_has 2 (some .boolean) 1 := ⟨q629, q11, q897, q627, q628, by decide +kernel, by decide +kernel, by decide +kernel⟩
theorem s_X9_288 : CsV RX9 288 yX6_hasNumber cX6_hasNumber 2 (some .boolean) 1 := ⟨q625, q11, q905, q623, q624, by decide +kernel, by decide +kernel, by decide +kernel⟩
theorem s_X9_291 : CsS RX9 291 yX9_heldWithin cX9_heldWithin 3 (some .int) 3 := ⟨q108, q1, q906, q107, by decide +kernel, by decide +kernel, by decide +kernel⟩
theorem s_X9_296 : CsV RX9 296 yX6_hasRange cX6_hasRange 3 (some .boolean) 2 := ⟨q918, q11, q915, q916, q917, by decide +kernel, by decide +kernel, by decide +kernel⟩
theorem s_X9_305 : CsS RX9 305 yX9_isSlot cX9_isSlot 1 (some .boolean) 1 := ⟨q926, q1, q924, q925, by decide +kernel, by decide +kernel, by decide +kernel⟩
theorem s_X9_308 : CsV RX9 308 yX9_canLay cX9_canLay 3 (some .boolean) 2 := ⟨q930, q1, q927, q929, (TB_p 18 (by decide +kernel) (by decide +kernel)), by decide +kernel, by decide +kernel, by decide +kernel⟩
theorem s_X9_322 : CsV RX9 322 yX6_takeFrom cX6_takeFrom 2 none 1 := ⟨q934, q11, q931, q932, q933, by decide +kernel, by decide +kernel, by decide +kernel⟩
theorem s_X9_337 : CsV RX9 337 yX8_rightOnes cX8_rightOnes 8 (some .int) 4 := ⟨q960, q9, q957, q958, q959, by decide +kernel, by decide +kernel, by decide +kernel⟩
theorem s_X9_341 : CsV RX9 341 yX1_takeFrom cX1_takeFrom 2 none 1 := ⟨q527, q2, q968, q525, q526, by decide +kernel, by decide +kernel, by decide +kernel⟩
theorem s_X0_35 : CsN RX0 35 yX9_isWithin "OneDraught" cX9_isWithin 3 (some .boolean) 3 := ⟨q98, q1, (List.mem_of_getElem? (i := 3) rfl), q97, by decide +kernel, by decide +kernel, by decide +kernel⟩
theorem s_X0_41 : CsS RX0 41 yJ6_bitCount_0f7a4 cJ6_bitCount_0f7a4 1 (some .int) 1 := ⟨q456, q14, q499, q455, by decide +kernel, by decide +kernel, by decide +kernel⟩
theorem s_X1_48 : CsS RX1 48 yJ7_fill_53178 cJ7_fill_53178 4 none 2 := ⟨q139, q8, q137, q138, by decide +kernel, by decide +kernel, by decide +kernel⟩
theorem s_X1_54 : CsV RX1 54 yX0_takeFrom cX0_takeFrom 2 none 1 := ⟨q531, q3, q528, q529, q530, by decide +kernel, by decide +kernel, by decide +kernel⟩
theorem s_X1_58 : CsV RX1 58 yX5_takeFrom cX5_takeFrom 3 none 1 := ⟨q536, q4, q533, q534, q535, by decide +kernel, by decide +kernel, by decide +kernel⟩
theorem s_X1_61 : CsV RX1 61 yX1_takeAirFrom cX1_takeAirFrom 2 none 1 := ⟨q541, q2, q538, q539, q540, by decide +kernel, by decide +kernel, by decide +kernel⟩
theorem s_X1_80 : CsS RX1 80 yJ6_bitCount_0f7a4 cJ6_bitCount_0f7a4 1 (some .int) 1 := ⟨q456, q14, q454, q455, by decide +kernel, by decide +kernel, by decide +kernel⟩
theorem s_X1_101 : CsV RX1 101 yX5_letsOf cX5_letsOf 4 (some .int) 3 := ⟨q361, q4, q358, q359, q360, by decide +kernel, by decide +kernel, by decide +kernel⟩
theorem s_X1_111 : CsV RX1 111 yX1_letsOf cX1_letsOf 2 (some .int) 1 := ⟨q357, q2, q366, q355, q356, by decide +kernel, by decide +kernel, by decide +kernel⟩
theorem s_X1_113 : CsV RX1 113 yX1_measureFlows cX1_measureFlows 3 none 0 := ⟨q407, q2, q404, q405, q406, by decide +kernel, by decide +kernel, by decide +kernel⟩
theorem s_X1_119 : CsV RX1 119 yX1_flowOf cX1_flowOf 2 (some .int) 1 := ⟨q365, q2, q408, q363, q364, by decide +kernel, by decide +kernel, by decide +kernel⟩
theorem s_X1_129 : CsV RX1 129 yX1_isLit cX1_isLit 2 (some .boolean) 1 := ⟨q399, q2, q487, q397, q398, by decide +kernel, by decide +kernel, by decide +kernel⟩
theorem s_X1_133 : CsV RX1 133 yX5_valueOf cX5_valueOf 6 (some .int) 4 := ⟨q91, q4, q488, q89, q90, by decide +kernel, by decide +kernel, by decide +kernel⟩
theorem s_X1_137 : CsN RX1 137 yX9_heldWithin "OneDraught" cX9_heldWithin 3 (some .int) 3 := ⟨q108, q1, (List.mem_of_getElem? (i := 5) rfl), q107, by decide +kernel, by decide +kernel, by decide +kernel⟩
theorem s_X1_140 : CsV RX1 140 yX1_light cX1_light 3 none 2 := ⟨q422, q2, q490, q420, q421, by decide +kernel, by decide +kernel, by decide +kernel⟩
theorem s_X1_144 : CsV RX1 144 yX1_carryScent cX1_carryScent 8 none 0 := ⟨q472, q2, q469, q470, q471, by decide +kernel, by decide +kernel, by decide +kernel⟩
theorem s_X1_147 : CsV RX1 147 yX1_moveAir cX1_moveAir 2 none 0 := ⟨q482, q2, q479, q480, q481, by decide +kernel, by decide +kernel, by decide +kernel⟩
theorem s_X1_150 : CsV RX1 150 yX1_snuffCandles cX1_snuffCandles 3 none 0 := ⟨q486, q2, q483, q485, (TB_p 2 (by decide +kernel) (by decide +kernel)), by decide +kernel, by decide +kernel, by decide +kernel⟩
theorem s_X1_154 : CsV RX1 154 yX1_draw cX1_draw 1 (some .int) 0 := ⟨q438, q2, q435, q437, (TB_p 1 (by decide +kernel) (by decide +kernel)), by decide +kernel, by decide +kernel, by decide +kernel⟩
theorem s_X1_160 : CsV RX1 160 yX0_add cX0_add 6 (some .int) 4 := ⟨q340, q3, q440, q338, q339, by decide +kernel, by decide +kernel, by decide +kernel⟩
theorem s_X1_163 : CsV RX1 163 yX0_swing cX0_swing 3 none 2 := ⟨q391, q3, q441, q389, q390, by decide +kernel, by decide +kernel, by decide +kernel⟩
theorem s_X2_9 : CsN RX2 9 yX9_isWithin "OneDraught" cX9_isWithin 3 (some .boolean) 3 := ⟨q98, q1, (List.mem_of_getElem? (i := 6) rfl), q97, by decide +kernel, by decide +kernel, by decide +kernel⟩
theorem s_X3_20 : CsS RX3 20 yX3_joined cX3_joined 3 (some .int) 3 := ⟨q105, q5, q103, q104, by decide +kernel, by decide +kernel, by decide +kernel⟩
theorem s_X4_39 : CsV RX4 39 yX4_step cX4_step 3 none 0 := ⟨q663, q10, q660, q662, (TB_p 5 (by decide +kernel) (by decide +kernel)), by decide +kernel, by decide +kernel, by decide +kernel⟩
theorem s_X4_42 : CsV RX4 42 yX4_readKey cX4_readKey 1 none 0 := ⟨q671, q10, q668, q670, (TB_p 7 (by decide +kernel) (by decide +kernel)), by decide +kernel, by decide +kernel, by decide +kernel⟩
theorem s_X4_45 : CsV RX4 45 yX4_readLevel cX4_readLevel 7 none 3 := ⟨q730, q10, q727, q729, (TB_p 9 (by decide +kernel) (by decide +kernel)), by decide +kernel, by decide +kernel, by decide +kernel⟩
theorem s_X4_68 : CsV RX4 68 yX4_isWord cX4_isWord 3 (some .boolean) 1 := ⟨q676, q10, q673, q675, (TB_p 8 (by decide +kernel) (by decide +kernel)), by decide +kernel, by decide +kernel, by decide +kernel⟩
theorem s_X4_88 : CsV RX4 88 yX4_readPiece cX4_readPiece 3 none 2 := ⟨q734, q10, q731, q733, (TB_p 10 (by decide +kernel) (by decide +kernel)), by decide +kernel, by decide +kernel, by decide +kernel⟩
theorem s_X4_92 : CsS RX4 92 yX4_signsOf cX4_signsOf 1 (some (.object "java/lang/String")) 1 := ⟨q829, q10, q827, q828, by decide +kernel, by decide +kernel, by decide +kernel⟩
theorem s_X4_96 : CsV RX4 96 yX4_isSignOf cX4_isSignOf 2 (some .boolean) 1 := ⟨q765, q10, q762, q764, (TB_p 16 (by decide +kernel) (by decide +kernel)), by decide +kernel, by decide +kernel, by decide +kernel⟩
theorem s_X4_99 : CsV RX4 99 yX4_put cX4_put 2 none 1 := ⟨q746, q10, q743, q745, (TB_p 13 (by decide +kernel) (by decide +kernel)), by decide +kernel, by decide +kernel, by decide +kernel⟩
theorem s_X4_103 : CsV RX4 103 yX4_numberRead cX4_numberRead 3 (some .int) 0 := ⟨q738, q10, q735, q737, (TB_p 11 (by decide +kernel) (by decide +kernel)), by decide +kernel, by decide +kernel, by decide +kernel⟩
theorem s_X4_107 : CsV RX4 107 yX4_putLeaf cX4_putLeaf 2 none 1 := ⟨q742, q10, q739, q741, (TB_p 12 (by decide +kernel) (by decide +kernel)), by decide +kernel, by decide +kernel, by decide +kernel⟩
theorem s_X4_110 : CsV RX4 110 yX4_firstName cX4_firstName 1 (some (.object "java/lang/String")) 0 := ⟨q750, q10, q747, q749, (TB_p 14 (by decide +kernel) (by decide +kernel)), by decide +kernel, by decide +kernel, by decide +kernel⟩
theorem s_X4_114 : CsV RX4 114 yX4_secondName cX4_secondName 1 (some (.object "java/lang/String")) 0 := ⟨q757, q10, q754, q756, (TB_p 15 (by decide +kernel) (by decide +kernel)), by decide +kernel, by decide +kernel, by decide +kernel⟩
theorem s_X4_121 : CsV RX4 121 yX4_closeBracket cX4_closeBracket 1 none 0 := ⟨q825, q10, q822, q824, (TB_p 17 (by decide +kernel) (by decide +kernel)), by decide +kernel, by decide +kernel, by decide +kernel⟩
theorem s_X4_138 : CsV RX4 138 yJ0_length_8abf5 cJ0_length_8abf5 1 (some .int) 0 := ⟨q680, q16, q677, q678, q679, by decide +kernel, by decide +kernel, by decide +kernel⟩
theorem s_X4_142 : CsV RX4 142 yJ0_charAt_5068e cJ0_charAt_5068e 2 (some .char) 1 := ⟨q690, q16, q687, q688, q689, by decide +kernel, by decide +kernel, by decide +kernel⟩
theorem s_X4_146 : CsV RX4 146 yJ0_indexOf_0f7a4 cJ0_indexOf_0f7a4 2 (some .int) 1 := ⟨q769, q16, q766, q767, q768, by decide +kernel, by decide +kernel, by decide +kernel⟩
theorem s_X4_150 : CsV RX4 150 yX4_sortAt cX4_sortAt 3 (some .int) 1 := ⟨q667, q10, q664, q666, (TB_p 6 (by decide +kernel) (by decide +kernel)), by decide +kernel, by decide +kernel, by decide +kernel⟩
theorem s_X5_32 : CsV RX5 32 yX5_workOutLets cX5_workOutLets 5 none 0 := ⟨q87, q4, q84, q86, (TB_p 0 (by decide +kernel) (by decide +kernel)), by decide +kernel, by decide +kernel, by decide +kernel⟩
theorem s_X5_48 : CsN RX5 48 yX9_isWithin "OneDraught" cX9_isWithin 3 (some .boolean) 3 := ⟨q98, q1, (List.mem_of_getElem? (i := 7) rfl), q97, by decide +kernel, by decide +kernel, by decide +kernel⟩
theorem s_X5_52 : CsV RX5 52 yX5_lawAt cX5_lawAt 2 (some (.object "OneDraught$Law")) 1 := ⟨q95, q4, q92, q93, q94, by decide +kernel, by decide +kernel, by decide +kernel⟩
theorem s_X5_56 : CsV RX5 56 yX3_valueWith cX3_valueWith 7 (some .int) 3 := ⟨q102, q5, q99, q100, q101, by decide +kernel, by decide +kernel, by decide +kernel⟩
theorem s_X5_60 : CsV RX5 60 yX5_valueOf cX5_valueOf 6 (some .int) 4 := ⟨q91, q4, q88, q89, q90, by decide +kernel, by decide +kernel, by decide +kernel⟩
theorem s_X5_64 : CsN RX5 64 yX9_heldWithin "OneDraught" cX9_heldWithin 3 (some .int) 3 := ⟨q108, q1, (List.mem_of_getElem? (i := 8) rfl), q107, by decide +kernel, by decide +kernel, by decide +kernel⟩
theorem s_X5_68 : CsS RX5 68 yX2_letsOf cX2_letsOf 6 (some .int) 4 := ⟨q117, q7, q115, q116, by decide +kernel, by decide +kernel, by decide +kernel⟩
theorem s_X6_22 : CsS RX6 22 yJ7_fill_53178 cJ7_fill_53178 4 none 2 := ⟨q139, q8, q891, q138, by decide +kernel, by decide +kernel, by decide +kernel⟩
theorem s_X6_34 : CsN RX6 34 yX9_isWithin "OneDraught" cX9_isWithin 3 (some .boolean) 3 := ⟨q98, q1, (List.mem_of_getElem? (i := 9) rfl), q97, by decide +kernel, by decide +kernel, by decide +kernel⟩
theorem s_X6_38 : CsV RX6 38 yX6_has cX6_has 2 (some .boolean) 1 := ⟨q629, q11, q626, q627, q628, by decide +kernel, by decide +kernel, by decide +kernel⟩
theorem s_X8_18 : CsV RX8 18 yX1_takeFrom cX1_takeFrom 2 none 1 := ⟨q527, q2, q524, q525, q526, by decide +kernel, by decide +kernel, by decide +kernel⟩
theorem s_X8_22 : CsV RX8 22 yX1_passMinute cX1_passMinute 1 none 0 := ⟨q468, q2, q542, q466, q467, by decide +kernel, by decide +kernel, by decide +kernel⟩
theorem s_X8_25 : CsV RX8 25 yX1_measureFlows cX1_measureFlows 3 none 0 := ⟨q407, q2, q551, q405, q406, by decide +kernel, by decide +kernel, by decide +kernel⟩
theorem s_X8_28 : CsV RX8 28 yX1_flowsAreNought cX1_flowsAreNought 2 (some .boolean) 0 := ⟨q555, q2, q552, q553, q554, by decide +kernel, by decide +kernel, by decide +kernel⟩
theorem s_X8_32 : CsV RX8 32 yX1_moveAir cX1_moveAir 2 none 0 := ⟨q482, q2, q556, q480, q481, by decide +kernel, by decide +kernel, by decide +kernel⟩
theorem s_X8_46 : CsS RX8 46 yJ6_bitCount_0f7a4 cJ6_bitCount_0f7a4 1 (some .int) 1 := ⟨q456, q14, q566, q455, by decide +kernel, by decide +kernel, by decide +kernel⟩
theorem s_X8_52 : CsV RX8 52 yX1_takeAirFrom cX1_takeAirFrom 2 none 1 := ⟨q541, q2, q567, q539, q540, by decide +kernel, by decide +kernel, by decide +kernel⟩
theorem s_X8_55 : CsV RX8 55 yX8_isCalm cX8_isCalm 5 (some .boolean) 3 := ⟨q571, q9, q568, q570, (TB_p 3 (by decide +kernel) (by decide +kernel)), by decide +kernel, by decide +kernel, by decide +kernel⟩
theorem s_X8_66 : CsS RX8 66 yJ7_fill_53178 cJ7_fill_53178 4 none 2 := ⟨q139, q8, q580, q138, by decide +kernel, by decide +kernel, by decide +kernel⟩
theorem s_X8_72 : CsV RX8 72 yX1_carryScent cX1_carryScent 8 none 0 := ⟨q472, q2, q581, q470, q471, by decide +kernel, by decide +kernel, by decide +kernel⟩
theorem s_X8_75 : CsV RX8 75 yX0_swing cX0_swing 3 none 2 := ⟨q391, q3, q590, q389, q390, by decide +kernel, by decide +kernel, by decide +kernel⟩
theorem s_X8_79 : CsV RX8 79 yX1_litMany cX1_litMany 1 (some .int) 0 := ⟨q453, q2, q591, q451, q452, by decide +kernel, by decide +kernel, by decide +kernel⟩
theorem s_X8_92 : CsV RX8 92 yX8_differenceWith cX8_differenceWith 7 (some .int) 4 := ⟨q620, q9, q617, q618, q619, by decide +kernel, by decide +kernel, by decide +kernel⟩
theorem s_X8_96 : CsV RX8 96 yX0_isOpen cX0_isOpen 2 (some .boolean) 1 := ⟨q353, q3, q621, q351, q352, by decide +kernel, by decide +kernel, by decide +kernel⟩
theorem s_X8_100 : CsV RX8 100 yX6_hasNumber cX6_hasNumber 2 (some .boolean) 1 := ⟨q625, q11, q622, q623, q624, by decide +kernel, by decide +kernel, by decide +kernel⟩
theorem s_X8_113 : CsV RX8 113 yX1_minutesLeft cX1_minutesLeft 1 (some .int) 0 := ⟨q463, q2, q961, q461, q462, by decide +kernel, by decide +kernel, by decide +kernel⟩
theorem s_X8_120 : CsV RX8 120 yX1_airOfAll cX1_airOfAll 3 (some .int) 0 := ⟨q511, q2, q963, q509, q510, by decide +kernel, by decide +kernel, by decide +kernel⟩
theorem s_J0_335 : CsV RJ0 335 yJ0_coder_7d493 cJ0_coder_7d493 1 (some .byte) 0 := ⟨q684, q16, q681, q682, q683, by decide +kernel, by decide +kernel, by decide +kernel⟩
theorem s_J0_492 : CsV RJ0 492 yJ0_isLatin1_aae02 cJ0_isLatin1_aae02 1 (some .boolean) 0 := ⟨q694, q16, q691, q692, q693, by decide +kernel, by decide +kernel, by decide +kernel⟩
theorem s_J0_495 : CsS RJ0 495 yJ1_charAt_3b067 cJ1_charAt_3b067 2 (some .char) 2 := ⟨q697, q17, q695, q696, by decide +kernel, by decide +kernel, by decide +kernel⟩
theorem s_J0_505 : CsV RJ0 505 yJ0_length_8abf5 cJ0_length_8abf5 1 (some .int) 0 := ⟨q680, q16, q774, q678, q679, by decide +kernel, by decide +kernel, by decide +kernel⟩
theorem s_J0_633 : CsV RJ0 633 yJ0_indexOf_7cf53 cJ0_indexOf_7cf53 3 (some .int) 2 := ⟨q773, q16, q770, q771, q772, by decide +kernel, by decide +kernel, by decide +kernel⟩
theorem s_J0_637 : CsS RJ0 637 yJ1_indexOf_4cfef cJ1_indexOf_4cfef 4 (some .int) 4 := ⟨q777, q17, q775, q776, by decide +kernel, by decide +kernel, by decide +kernel⟩
theorem s_J0_1059 : CsS RJ0 1059 yJ3_checkIndex_8e157 cJ3_checkIndex_8e157 3 (some .int) 3 := ⟨q705, q18, q703, q704, by decide +kernel, by decide +kernel, by decide +kernel⟩
theorem s_J1_9 : CsS RJ1 9 yJ0_checkIndex_df160 cJ0_checkIndex_df160 2 none 2 := ⟨q700, q16, q698, q699, by decide +kernel, by decide +kernel, by decide +kernel⟩
theorem s_J1_88 : CsS RJ1 88 yJ1_canEncode_9a6ad cJ1_canEncode_9a6ad 1 (some .boolean) 1 := ⟨q780, q17, q778, q779, by decide +kernel, by decide +kernel, by decide +kernel⟩
theorem s_J1_95 : CsS RJ1 95 yJ1_indexOfChar_4cfef cJ1_indexOfChar_4cfef 6 (some .int) 4 := ⟨q785, q17, q783, q784, by decide +kernel, by decide +kernel, by decide +kernel⟩
